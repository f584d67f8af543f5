/-! rack -/
theorem gdt {α : Type} {x : Option α} : ux_gd true x = x := rfl
theorem nIs (n : Nat) : nI n + 1 - 1 = nI n := by
  rw [← nI_succ]; exact nI_pred n
theorem t_hadd {S : ux_S} {nr : Nat} (h : S.1 1 5 = nI nr) (hn : nr < 8) (a b c d : Int32) : f_X2_add S a b c d = some (nI nr, ux_i (ux_i (ux_i (ux_i (ux_i S 9 nr a) 10 nr b) 11 nr c) 12 nr d) 1 5 (nI (nr + 1))) := by
  have hl : nI nr < 8 := by rw [show (8 : Int32) = nI 8 from rfl]; exact nI_lt hn (by omega)
  have hb : ux_ib (nI nr) 8 = true := ux_ibn hn (by omega)
  have hc := nI_clamp (n := nr) (by omega)
  unfold f_X2_add
  simp (disch := omega) only [h, hl, if_true, rd_ne, hb, gdt, hc, ux_i_same, nI_succ, nIs]
theorem t_hfull {S : ux_S} (h : S.1 1 5 = nI 8) (a b c d : Int32) : f_X2_add S a b c d = some (-3, S) := by
  unfold f_X2_add
  rw [h, if_neg (by decide)]
theorem t_rack7 (n : Nat) (S : ux_S) (a b c d : Int32) : f_X7_rack n S a b c d = if ir a 0 1000 = 0 ∨ ir b 10000 60000 = 0 ∨ ir c 1 1000 = 0 ∨ ir d 0 20 = 0 then some (-1, S) else f_X2_add S a b c d := by
  unfold f_X7_rack b_X7_rack_49 b_X7_rack_50
  simp only [t_within, ux_bi_s]
  rcases ir_cases a 0 1000 with ⟨e1, -⟩ | ⟨e1, -⟩ <;> rcases ir_cases b 10000 60000 with ⟨e2, -⟩ | ⟨e2, -⟩ <;> rcases ir_cases c 1 1000 with ⟨e3, -⟩ | ⟨e3, -⟩ <;> rcases ir_cases d 0 20 with ⟨e4, -⟩ | ⟨e4, -⟩ <;> simp only [e1, e2, e3, e4, i00, i10, if_true, if_false, true_or, or_true, or_self, or_false, false_or] <;> (cases f_X2_add S a b c d <;> rfl)
set_option maxRecDepth 8000 in
theorem pr_rack (n : Nat) (p0 p1 p2 p3 : Int32) : alike (fun S => f_X7_rack n S p0 p1 p2 p3) (fun S => f_X8_rack S p0 p1 p2 p3) := by
  intro S hR
  obtain ⟨nr, nm, nf, nc, nt, h1, h2, h3, h4, h5, h6, h7⟩ := id hR
  obtain ⟨g0, g1, g2, g3, g4, g5, g6⟩ := id h1
  by_cases hb : ir p0 0 1000 = 0 ∨ ir p1 10000 60000 = 0 ∨ ir p2 1 1000 = 0 ∨ ir p3 0 20 = 0
  · refine ⟨-1, S, S, ?_, ?_, hR⟩
    · simp only [t_rack7]; rw [if_pos hb]
    · simp only [f_X8_rack, ti_0_1000, ti_10000_60000, ti_1_1000, ti_0_20, ux_bi_s]
      rcases ir_cases p0 0 1000 with ⟨e1, -⟩ | ⟨e1, -⟩
      · rw [if_pos e1]
      · rw [if_neg (by rw [e1]; decide)]
        rcases ir_cases p1 10000 60000 with ⟨e2, -⟩ | ⟨e2, -⟩
        · rw [if_pos e2]
        · rw [if_neg (by rw [e2]; decide)]
          rcases ir_cases p2 1 1000 with ⟨e3, -⟩ | ⟨e3, -⟩
          · rw [if_pos e3]
          · rw [if_neg (by rw [e3]; decide)]
            rcases ir_cases p3 0 20 with ⟨e4, -⟩ | ⟨e4, -⟩
            · rw [if_pos e4]
            · exfalso
              rw [e1, e2, e3, e4] at hb
              revert hb; decide
  · have b1 : 0 ≤ p0 ∧ p0 ≤ 1000 := (ir_cases p0 0 1000).elim (fun h => absurd (Or.inl h.1) hb) (fun h => h.2)
    have b2 : 10000 ≤ p1 ∧ p1 ≤ 60000 := (ir_cases p1 10000 60000).elim (fun h => absurd (Or.inr (Or.inl h.1)) hb) (fun h => h.2)
    have b3 : 1 ≤ p2 ∧ p2 ≤ 1000 := (ir_cases p2 1 1000).elim (fun h => absurd (Or.inr (Or.inr (Or.inl h.1))) hb) (fun h => h.2)
    have b4 : 0 ≤ p3 ∧ p3 ≤ 20 := (ir_cases p3 0 20).elim (fun h => absurd (Or.inr (Or.inr (Or.inr h.1))) hb) (fun h => h.2)
    have n1 : ¬ ir p0 0 1000 = 0 := fun h => hb (Or.inl h)
    have n2 : ¬ ir p1 10000 60000 = 0 := fun h => hb (Or.inr (Or.inl h))
    have n3 : ¬ ir p2 1 1000 = 0 := fun h => hb (Or.inr (Or.inr (Or.inl h)))
    have n4 : ¬ ir p3 0 20 = 0 := fun h => hb (Or.inr (Or.inr (Or.inr h)))
    by_cases hf : nr = 8
    · subst hf
      refine ⟨-3, S, S, ?_, ?_, hR⟩
      · simp only [t_rack7]; rw [if_neg hb, t_hfull g1]
      · simp only [f_X8_rack, ti_0_1000, ti_10000_60000, ti_1_1000, ti_0_20, ux_bi_s, n1, n2, n3, n4, if_false]
        rw [g2, if_pos (by decide)]
    · have hl : nr < 8 := by omega
      have hc := nI_clamp (n := nr) (by omega)
      have hc2 := nI_clamp (n := 2 * nr) (by omega)
      have hc3 := nI_clamp (n := 2 * nr + 1) (by omega)
      have hib : ux_ib (nI nr) 8 = true := ux_ibn hl (by omega)
      have hib2 : ux_ib (nI (2 * nr)) 16 = true := ux_ibn (by omega) (by omega)
      have hib3 : ux_ib (nI (2 * nr + 1)) 16 = true := ux_ibn (by omega) (by omega)
      have hne : ¬ nI nr = 8 := by rw [show (8 : Int32) = nI 8 from rfl, nI_eq (by omega) (by omega)]; exact hf
      have hm2 : (2 : Int32) * nI nr = nI (2 * nr) := by rw [show (2 : Int32) = nI 2 from rfl, pk_mul]
      have hm3 : nI (2 * nr) + 1 = nI (2 * nr + 1) := nI_1 _
      have hs1 : nI nr + 1 = nI (nr + 1) := nI_1 _
      generalize hA : ux_i (ux_i (ux_i (ux_i (ux_i S 9 nr p0) 10 nr p1) 11 nr p2) 12 nr p3) 1 5 (nI (nr + 1)) = A
      have k2 : A.1 8 0 = nI nr := by rw [← hA]; simp (disch := omega) only [rd_ne]; exact g2
      refine ⟨nI nr, A, ux_i (ux_i (ux_i (ux_i (ux_i (ux_i (ux_i A 54 nr p0) 55 nr p1) 56 nr p2) 57 nr p3) 72 (2 * nr) (-4)) 72 (2 * nr + 1) (-4)) 8 0 (nI (nr + 1)), ?_, ?_, ?_⟩
      · simp only [t_rack7]; rw [if_neg hb, t_hadd g1 hl, hA]
      · simp (disch := omega) only [f_X8_rack, ti_0_1000, ti_10000_60000, ti_1_1000, ti_0_20, ux_bi_s, n1, n2, n3, n4, if_false, k2, hne, rd_ne, hc, hc2, hc3, hib, hib2, hib3, hm2, hm3, hs1, gdt, ux_i_same, nI_pred]
      · subst hA
        generalize hB : ux_i (ux_i (ux_i (ux_i (ux_i (ux_i (ux_i (ux_i (ux_i (ux_i (ux_i (ux_i S 9 nr p0) 10 nr p1) 11 nr p2) 12 nr p3) 1 5 (nI (nr + 1))) 54 nr p0) 55 nr p1) 56 nr p2) 57 nr p3) 72 (2 * nr) (-4)) 72 (2 * nr + 1) (-4)) 8 0 (nI (nr + 1)) = B
        have o : off (fun i k => PHall i k ∨ i = 72) S B := by
          rw [← hB]
          repeat (first | exact off.rf | refine off.up ?_ (by unfold PHall; omega))
        refine ⟨nr + 1, nm, nf, nc, nt, ⟨by omega, ?_, ?_, fun i hi => ?_, fun a b ha hb => ?_, ?_, ?_⟩, h2.cong (fun i k q => o.1 i k (by unfold PPrices at q; unfold PHall; omega)), h3.cong (fun i k q => o.1 i k (by unfold PMach at q; unfold PHall; omega)), h4.cong (fun i k q => o.1 i k (by unfold PSheet at q; unfold PHall; omega)) o.2, ?_, h6.cong (fun i k q => o.1 i k (by unfold PAlarm at q; unfold PHall; omega)), h7.cong (fun i k q => o.1 i k (by unfold PMet at q; unfold PHall; omega))⟩
        · rw [← hB]; simp (disch := omega) only [rd_ne, ux_i_same]
        · rw [← hB, ux_i_same]
        · rw [← hB]; simp (disch := omega) only [rd_ne, rd_if]
          by_cases q : i = nr
          · simp only [q, if_true]
            exact ⟨⟨trivial, ir_rg b1 (by decide) (by decide)⟩, ⟨trivial, ir_rg b2 (by decide) (by decide)⟩, ⟨trivial, ir_rg b3 (by decide) (by decide)⟩, trivial, ir_rg b4 (by decide) (by decide)⟩
          · simp only [q, if_false]
            exact g3 i (by omega)
        · rw [← hB]; simp (disch := omega) only [rd_ne]; exact g4 a b ha hb
        · rw [← hB]; simp (disch := omega) only [rd_ne, rd_nk]; exact g5
        · rw [← hB]; simp (disch := omega) only [rd_ne, rd_nk]; exact g6
        · obtain ⟨f0, f1, f2, f3, f4, ⟨F, e1, e2, e3⟩, f6⟩ := h5
          refine ⟨f0, ?_, ?_, ?_, fun f hf => ?_, ⟨F, e1, ?_, fun f hf => ?_⟩, fun r w hr hw => ⟨fun hrn => ?_, ?_⟩⟩
          · rw [← hB]; simp (disch := omega) only [rd_ne]; exact f1
          · rw [← hB]; simp (disch := omega) only [rd_ne, rd_nk]; exact f2
          · rw [← hB]; simp (disch := omega) only [rd_ne, rd_nk]; exact f3
          · rw [← hB]; simp (disch := omega) only [rd_ne]; exact f4 f hf
          · rw [← hB]; simp (disch := omega) only [rd_ne]; exact e2
          · rw [← hB]; simp (disch := omega) only [rd_ne]; exact e3 f hf
          · rw [← hB]; simp (disch := omega) only [rd_ne, rd_if]
            by_cases q : r < nr
            · rw [if_neg (by omega), if_neg (by omega)]
              exact (f6 r w hr hw).1 q
            · have e9 : S.1 (45 + w) r = -4 := (f6 r w hr hw).2.elim id (fun h => absurd h.1 q)
              rw [e9]
              have hw2 : w = 0 ∨ w = 1 := by omega
              rcases hw2 with rfl | rfl
              · rw [if_neg (by omega), if_pos (by omega)]
              · rw [if_pos (by omega)]
          · rw [← hB]; simp (disch := omega) only [rd_ne]
            rcases (f6 r w hr hw).2 with q | ⟨q, g, hg⟩
            · exact Or.inl q
            · exact Or.inr ⟨by omega, g, hg⟩
/-! machine -/
theorem pr_machine (p0 p1 : Int32) : alike (fun S => f_X7_machine S p0 p1) (fun S => f_X8_machine S p0 p1) := by
  intro S hR
  obtain ⟨nr, nm, nf, nc, nt, h1, h2, h3, h4, h5, h6, h7⟩ := id hR
  obtain ⟨g0, g1, g2, g3⟩ := id h3
  rcases ir_cases p0 1 300 with ⟨e, -⟩ | ⟨e, h8⟩
  · refine ⟨-1, S, S, ?_, ?_, hR⟩
    · simp only [f_X7_machine, t_within, ux_bi_s, e, i00, if_true]
    · simp only [f_X8_machine, ti_1_300, ux_bi_s, e, i00, if_true]
  · rcases ir_cases p1 1 10 with ⟨e2, -⟩ | ⟨e2, h9⟩
    · refine ⟨-1, S, S, ?_, ?_, hR⟩
      · simp only [f_X7_machine, t_within, ux_bi_s, e, e2, i10, if_false, i00, if_true]
      · simp only [f_X8_machine, ti_1_300, ti_1_10, ux_bi_s, e, e2, i10, if_false, i00, if_true]
    · by_cases hf : nm = 5
      · subst hf
        refine ⟨-3, S, S, ?_, ?_, hR⟩
        · simp only [f_X7_machine, t_within, ux_bi_s, e, e2, i10, if_false, f_X4_add, g1]
          rw [if_neg (by decide)]; rfl
        · simp only [f_X8_machine, ti_1_300, ti_1_10, ux_bi_s, e, e2, i10, if_false, g2]
          rw [if_pos (by decide)]
      · have hl : nI nm < 5 := by rw [show (5 : Int32) = nI 5 from rfl]; exact nI_lt (by omega) (by omega)
        have hne : ¬ nI nm = 5 := by rw [show (5 : Int32) = nI 5 from rfl, nI_eq (by omega) (by omega)]; exact hf
        have hib : ux_ib (nI nm) 5 = true := ux_ibn (by omega) (by omega)
        have hc := nI_clamp (n := nm) (by omega)
        refine ⟨nI nm, ux_i (ux_i (ux_i S 23 nm p0) 24 nm p1) 3 2 (nI (nm + 1)), ux_i (ux_i (ux_i (ux_i (ux_i (ux_i S 23 nm p0) 24 nm p1) 3 2 (nI (nm + 1))) 60 nm p0) 61 nm p1) 8 10 (nI (nm + 1)), ?_, ?_, ?_⟩
        · simp (disch := omega) only [f_X7_machine, t_within, ux_bi_s, e, e2, i10, if_false, f_X4_add, g1, hl, if_true, rd_ne, hib, gdt, hc, ux_i_same, nI_succ, nIs]
        · simp (disch := omega) only [f_X8_machine, ti_1_300, ti_1_10, ux_bi_s, e, e2, i10, if_false, rd_ne, g2, hne, hib, gdt, hc, ux_i_same, nI_succ, nIs]
        · refine offMach (nm := nm + 1) (by repeat (first | exact off.rf | refine off.up ?_ (by unfold PMach; omega))) h1 h2 ⟨by omega, ?_, ?_, fun i hi => ?_⟩ h4 h5 h6 h7
          · simp (disch := omega) only [rd_ne, ux_i_same]
          · rw [ux_i_same]
          · simp (disch := omega) only [rd_ne, rd_if]
            by_cases q : i = nm
            · simp only [q, if_true]
              exact ⟨⟨trivial, ir_rg h8 (by decide) (by decide)⟩, trivial, ir_rg h9 (by decide) (by decide)⟩
            · simp only [q, if_false]
              exact g3 i (by omega)
/-! cause -/
theorem pr_cause (p0 : Int32) : alike (fun S => f_X7_cause S p0) (fun S => f_X8_cause S p0) := by
  intro S hR
  obtain ⟨nr, nm, nf, nc, nt, h1, h2, h3, h4, h5, h6, h7⟩ := id hR
  obtain ⟨g0, g1, g2, g3, g4⟩ := id h6
  rcases ir_cases p0 1 65535 with ⟨e, -⟩ | ⟨e, h8⟩
  · refine ⟨-1, S, S, ?_, ?_, hR⟩
    · simp only [f_X7_cause, t_within, ux_bi_s, e, i00, if_true]
    · simp only [f_X8_cause, ti_1_65535, ux_bi_s, e, i00, if_true]
  · by_cases hf : nc = 10
    · subst hf
      refine ⟨-3, S, S, ?_, ?_, hR⟩
      · simp only [f_X7_cause, t_within, ux_bi_s, e, i10, if_false, f_X0_add, g1]
        rw [if_neg (by decide)]; rfl
      · simp only [f_X8_cause, ti_1_65535, ux_bi_s, e, i10, if_false, g2]
        rw [if_pos (by decide)]
    · have hl : nI nc < 10 := by rw [show (10 : Int32) = nI 10 from rfl]; exact nI_lt (by omega) (by omega)
      have hne : ¬ nI nc = 10 := by rw [show (10 : Int32) = nI 10 from rfl, nI_eq (by omega) (by omega)]; exact hf
      have hib : ux_ib (nI nc) 10 = true := ux_ibn (by omega) (by omega)
      have hc := nI_clamp (n := nc) (by omega)
      refine ⟨nI nc, ux_i (ux_i S 48 nc p0) 6 1 (nI (nc + 1)), ux_i (ux_i (ux_i (ux_i S 48 nc p0) 6 1 (nI (nc + 1))) 73 nc p0) 8 28 (nI (nc + 1)), ?_, ?_, ?_⟩
      · simp (disch := omega) only [f_X7_cause, t_within, ux_bi_s, e, i10, if_false, f_X0_add, g1, hl, if_true, rd_ne, hib, gdt, hc, ux_i_same, nI_succ, nIs]
      · simp (disch := omega) only [f_X8_cause, ti_1_65535, ux_bi_s, e, i10, if_false, rd_ne, g2, hne, hib, gdt, hc, ux_i_same, nI_succ, nIs]
      · refine offAlarm (nc := nc + 1) (by repeat (first | exact off.rf | refine off.up ?_ (by unfold PAlarm; omega))) h1 h2 h3 h4 h5 ⟨by omega, ?_, ?_, fun i hi => ?_, ?_⟩ h7
        · simp (disch := omega) only [rd_ne, ux_i_same]
        · rw [ux_i_same]
        · simp (disch := omega) only [rd_ne, rd_if]
          by_cases q : i = nc
          · simp only [q, if_true]
            exact ⟨trivial, ir_rg h8 (by decide) (by decide)⟩
          · simp only [q, if_false]
            exact g3 i (by omega)
        · simp (disch := omega) only [rd_ne, rd_nk]; exact g4
/-! price -/
theorem rg_nI {a b : Int} {x : Int32} (h : rg a b x) (ha : 0 ≤ a) : ∃ k : Nat, a ≤ (k : Int) ∧ (k : Int) ≤ b ∧ x = nI k := by
  obtain ⟨h1, h2⟩ := h
  have h3 : ¬ x < 0 := by rw [fa_lt, show (0 : Int32).toInt = 0 by decide]; omega
  obtain ⟨j, hj, rfl⟩ := nI_of h3
  rw [nI_toInt hj] at h1 h2
  exact ⟨j, h1, h2, rfl⟩
theorem pr_price (n : Nat) (p0 p1 : Int32) : alike (fun S => f_X7_price S p0 p1) (fun S => f_X8_price n S p0 p1) := by
  intro S hR
  obtain ⟨nr, nm, nf, nc, nt, h1, h2, h3, h4, h5, h6, h7⟩ := id hR
  obtain ⟨g1, g2⟩ := id h2
  by_cases hz : p0 = 0
  · rcases ir_cases p1 0 100 with ⟨e, -⟩ | ⟨e, h8⟩
    · refine ⟨-1, S, S, ?_, ?_, hR⟩
      · simp only [f_X7_price, hz, if_true, t_within, ux_bi_s, e, i00]
      · simp only [f_X8_price, hz, if_true, b_X8_price_9, b_X8_price_28, b_X8_price_44, i10, if_false, ti_0_100, ux_bi_s, e, i00]
    · refine ⟨S.1 2 1, ux_i S 2 1 p1, ux_i (ux_i S 2 1 p1) 8 9 p1, ?_, ?_, ?_⟩
      · simp only [f_X7_price, hz, if_true, t_within, ux_bi_s, e, i10, if_false, f_X5_changeWeight]
      · simp only [f_X8_price, hz, if_true, b_X8_price_9, b_X8_price_28, b_X8_price_44, b_X8_price_72, i10, if_false, ti_0_100, ux_bi_s, e]
        rw [rd_ne (by decide), g1.1]
      · refine offPrices (by repeat (first | exact off.rf | refine off.up ?_ (by unfold PPrices; omega))) h1 ⟨?_, fun k hk => ?_⟩ h3 h4 h5 h6 h7
        · simp (disch := omega) only [rd_ne, ux_i_same]; exact ⟨trivial, ir_rg h8 (by decide) (by decide)⟩
        · simp (disch := omega) only [rd_ne]; exact g2 k hk
  · rcases ir_cases p0 10 30 with ⟨e, -⟩ | ⟨e, h8⟩
    · refine ⟨-1, S, S, ?_, ?_, hR⟩
      · simp only [f_X7_price, hz, if_false, t_isAir, ux_bi_s, e, i00, if_true]
      · simp only [f_X8_price, hz, if_false, b_X8_price_9, i00, if_true, ti_10_30, ux_bi_s, e]
    · rcases ir_cases p1 0 1000 with ⟨e2, -⟩ | ⟨e2, h9⟩
      · refine ⟨-1, S, S, ?_, ?_, hR⟩
        · simp only [f_X7_price, hz, if_false, t_isAir, t_within, ux_bi_s, e, e2, i10, i00, if_true]
        · simp only [f_X8_price, hz, if_false, b_X8_price_9, b_X8_price_28, b_X8_price_44, i00, i10, if_true, ti_10_30, ti_0_1000, ux_bi_s, e, e2]
      · obtain ⟨k, k1, k2, rfl⟩ := rg_nI (ir_rg h8 (by decide) (by decide) : rg 10 30 p0) (by decide)
        have hs1 : nI k - 10 = nI (k - 10) := by rw [show (10 : Int32) = nI 10 from rfl, pk_sub (by omega)]
        have hib : ux_ib (nI (k - 10)) 21 = true := ux_ibn (by omega) (by omega)
        have hc := nI_clamp (n := k - 10) (by omega)
        refine ⟨S.1 22 (k - 10), ux_i S 22 (k - 10) p1, ux_i (ux_i S 22 (k - 10) p1) 59 (k - 10) p1, ?_, ?_, ?_⟩
        · simp only [f_X7_price, hz, if_false, t_isAir, t_within, ux_bi_s, e, e2, i10, f_X5_changeAir, hs1, hib, gdt, hc]
        · simp only [f_X8_price, hz, if_false, b_X8_price_9, b_X8_price_28, b_X8_price_44, b_X8_price_72, i00, i10, if_true, ti_10_30, ti_0_1000, ux_bi_s, e, e2, hs1, hib, gdt, hc]
          rw [rd_ne (by decide), (g2 (k - 10) (by omega)).1]
        · refine offPrices (by repeat (first | exact off.rf | refine off.up ?_ (by unfold PPrices; omega))) h1 ⟨?_, fun i hi => ?_⟩ h3 h4 h5 h6 h7
          · simp (disch := omega) only [rd_ne]; exact g1
          · simp (disch := omega) only [rd_ne, rd_if]
            by_cases q : i = k - 10
            · simp only [q, if_true]; exact ⟨trivial, ir_rg h9 (by decide) (by decide)⟩
            · simp only [q, if_false]; exact g2 i hi
/-! meter, reads, loses -/
theorem t_madd {S : ux_S} {nt : Nat} (h : S.1 7 5 = nI nt) (hn : nt < 12) (a : Int32) : f_X3_add S a = some (nI nt, ux_i (ux_i S 49 nt a) 7 5 (nI (nt + 1))) := by
  have hl : nI nt < 12 := by rw [show (12 : Int32) = nI 12 from rfl]; exact nI_lt hn (by omega)
  have hb : ux_ib (nI nt) 12 = true := ux_ibn hn (by omega)
  have hc := nI_clamp (n := nt) (by omega)
  unfold f_X3_add
  simp (disch := omega) only [h, hl, if_true, rd_ne, hb, gdt, hc, ux_i_same, nI_succ, nIs]
theorem t_mfull {S : ux_S} (h : S.1 7 5 = nI 12) (a : Int32) : f_X3_add S a = some (-3, S) := by
  unfold f_X3_add
  rw [h, if_neg (by decide)]
theorem t_hsm4 (n : Nat) (hn : n < 2 ^ 31) : hs (-4) n = 0 := by
  unfold hs; rw [if_pos (Or.inl (by decide))]
theorem pr_meter (n : Nat) (p0 : Int32) : alike (fun S => f_X7_meter n S p0) (fun S => f_X8_meter n S p0) := by
  intro S hR
  obtain ⟨nr, nm, nf, nc, nt, h1, h2, h3, h4, h5, h6, h7⟩ := id hR
  obtain ⟨g0, g1, g2, g3, g4⟩ := id h7
  have key : (p0 = -4 ∨ ∃ g, g < nt ∧ p0 = nI g) → (f_X7_meter n S p0 = f_X3_add S p0 ∧ ∀ A : ux_S, A.1 8 31 = nI nt → f_X8_meter n A p0 = b_X8_meter_24 n p0 A) := by
    intro h
    rcases h with rfl | ⟨g, hg, rfl⟩
    · refine ⟨?_, fun A hA => ?_⟩
      · simp only [f_X7_meter, b_X7_meter_17, if_true]
        cases f_X3_add S (-4) <;> rfl
      · simp only [f_X8_meter, if_true]
    · have hne : ¬ nI g = -4 := by
        intro q
        have := nI_pos (n := g) (by omega)
        rw [q] at this
        exact this (by decide)
      have hh : hs (nI g) nt = 1 := by
        rcases hs_cases (nI g) (n := nt) (by omega) with e | ⟨e, -⟩
        · unfold hs at e
          rw [if_neg] at e
          · exact absurd e (by decide)
          · rintro (q | q)
            · exact nI_pos (by omega) q
            · exact nI_ge hg (by omega) q
        · exact e
      refine ⟨?_, fun A hA => ?_⟩
      · simp only [f_X7_meter, b_X7_meter_17, hne, if_false, t_has3 g1, ux_bi_s, hh, i10]
        cases f_X3_add S (nI g) <;> rfl
      · simp only [f_X8_meter, hne, if_false, hA, t_inN A (nI g) (n := nt) (by omega), ux_bi_s, hh, i10]
  by_cases hok : p0 = -4 ∨ ∃ g, g < nt ∧ p0 = nI g
  · obtain ⟨k1, k2⟩ := key hok
    by_cases hf : nt = 12
    · subst hf
      refine ⟨-3, S, S, ?_, ?_, hR⟩
      · show f_X7_meter n S p0 = _
        rw [k1, t_mfull g1]
      · show f_X8_meter n S p0 = _
        rw [k2 S g2]
        unfold b_X8_meter_24
        rw [g2, if_pos (by decide)]
    · have hne : ¬ nI nt = 12 := by rw [show (12 : Int32) = nI 12 from rfl, nI_eq (by omega) (by omega)]; exact hf
      have hib : ux_ib (nI nt) 12 = true := ux_ibn (by omega) (by omega)
      have hc := nI_clamp (n := nt) (by omega)
      refine ⟨nI nt, ux_i (ux_i S 49 nt p0) 7 5 (nI (nt + 1)), ux_i (ux_i (ux_i (ux_i (ux_i S 49 nt p0) 7 5 (nI (nt + 1))) 74 nt p0) 75 nt 0) 8 31 (nI (nt + 1)), ?_, ?_, ?_⟩
      · show f_X7_meter n S p0 = _
        rw [k1, t_madd g1 (by omega)]
      · show f_X8_meter n _ p0 = _
        have g2' : (ux_i (ux_i S 49 nt p0) 7 5 (nI (nt + 1))).1 8 31 = nI nt := by simp (disch := omega) only [rd_ne]; exact g2
        rw [k2 _ g2']
        unfold b_X8_meter_24
        simp (disch := omega) only [rd_ne, g2, hne, if_false, hib, gdt, hc, ux_i_same, ux_nar0, nI_succ, nIs]
      · refine offMet (nt := nt + 1) (by repeat (first | exact off.rf | refine off.up ?_ (by unfold PMet; omega))) h1 h2 h3 h4 h5 h6 ⟨by omega, ?_, ?_, fun m hm => ?_, fun m hm => ?_⟩
        · simp (disch := omega) only [rd_ne, ux_i_same]
        · rw [ux_i_same]
        · simp (disch := omega) only [rd_ne, rd_if]
          by_cases q : m = nt
          · simp only [q, if_true]
            refine ⟨trivial, ?_, (g4 nt (by omega)).2.2 (by omega) |>.symm⟩
            rcases hok with q | ⟨g, hg, q⟩
            · exact Or.inl q
            · exact Or.inr ⟨g, hg, q⟩
          · simp only [q, if_false]
            exact g3 m (by omega)
        · simp (disch := omega) only [rd_ne]
          exact ⟨(g4 m hm).1, (g4 m hm).2.1, fun q => (g4 m hm).2.2 (by omega)⟩
  · have hne : ¬ p0 = -4 := fun q => hok (Or.inl q)
    have hh : hs p0 nt = 0 := (hs_cases p0 (n := nt) (by omega)).elim id (fun h => absurd (Or.inr h.2) hok)
    refine ⟨-1, S, S, ?_, ?_, hR⟩
    · simp only [f_X7_meter, hne, if_false, t_has3 g1, ux_bi_s, hh, i00, if_true]
    · simp only [f_X8_meter, hne, if_false, g2, t_inN S p0 (n := nt) (by omega), ux_bi_s, hh, i00, if_true]
theorem pr_reads (p0 p1 : Int32) : alike (fun S => f_X7_reads S p0 p1) (fun S => f_X8_reads S p0 p1) := by
  intro S hR
  obtain ⟨nr, nm, nf, nc, nt, h1, h2, h3, h4, h5, h6, h7⟩ := id hR
  obtain ⟨g0, g1, g2, g3, g4⟩ := id h7
  rcases hs_cases p0 (n := nt) (by omega) with e | ⟨e, j, hj, rfl⟩
  · refine ⟨-1, S, S, ?_, ?_, hR⟩
    · simp only [f_X7_reads, t_has3 g1, ux_bi_s, e, i00, if_true]
    · simp only [f_X8_reads, t_isMeter (by omega) g2, ux_bi_s, e, i00, if_true]
  · rcases ir_cases p1 (-100000) 100000 with ⟨e2, -⟩ | ⟨e2, h8⟩
    · refine ⟨-1, S, S, ?_, ?_, hR⟩
      · simp only [f_X7_reads, t_has3 g1, ux_bi_s, e, i10, if_false, t_within, e2, i00, if_true]
      · simp only [f_X8_reads, t_isMeter (by omega) g2, ux_bi_s, e, i10, if_false, ti_m100000_100000, e2, i00, if_true]
    · have hc := nI_clamp (n := j) (by omega)
      have hb : ux_ib (nI j) 12 = true := ux_ibn (by omega) (by omega)
      refine ⟨1, ux_i (ux_i S 50 j 1) 51 j p1, ux_i (ux_i (ux_i (ux_i S 50 j 1) 51 j p1) 75 j 1) 76 j p1, ?_, ?_, ?_⟩
      · simp only [f_X7_reads, t_has3 g1, ux_bi_s, e, i10, if_false, t_within, e2, hb, gdt, hc, ux_nar1]
      · have g2' : (ux_i (ux_i S 50 j 1) 51 j p1).1 8 31 = nI nt := by simp (disch := omega) only [rd_ne]; exact g2
        simp only [f_X8_reads, t_isMeter (by omega) g2', ux_bi_s, e, i10, if_false, ti_m100000_100000, e2, hb, gdt, hc, ux_nar1]
      · refine offMet (by repeat (first | exact off.rf | refine off.up ?_ (by unfold PMet; omega))) h1 h2 h3 h4 h5 h6 ⟨g0, ?_, ?_, fun m hm => ?_, fun m hm => ?_⟩
        · simp (disch := omega) only [rd_ne]; exact g1
        · simp (disch := omega) only [rd_ne]; exact g2
        · simp (disch := omega) only [rd_ne, rd_if]
          refine ⟨(g3 m hm).1, (g3 m hm).2.1, ?_⟩
          by_cases q : m = j
          · simp only [q, if_true]
          · simp only [q, if_false]; exact (g3 m hm).2.2
        · simp (disch := omega) only [rd_ne, rd_if]
          by_cases q : m = j
          · simp only [q, if_true]
            exact ⟨Or.inr trivial, trivial, fun q2 => absurd hj (by omega)⟩
          · simp only [q, if_false]; exact g4 m hm
theorem pr_loses (n : Nat) (p0 : Int32) : alike (fun S => f_X7_loses n S p0) (fun S => f_X8_loses n S p0) := by
  intro S hR
  obtain ⟨nr, nm, nf, nc, nt, h1, h2, h3, h4, h5, h6, h7⟩ := id hR
  obtain ⟨g0, g1, g2, g3, g4⟩ := id h7
  rcases hs_cases p0 (n := nt) (by omega) with e | ⟨e, j, hj, rfl⟩
  · refine ⟨-1, S, S, ?_, ?_, hR⟩
    · simp only [f_X7_loses, t_has3 g1, ux_bi_s, e, i00, if_true]
    · simp only [f_X8_loses, t_isMeter (by omega) g2, ux_bi_s, e, i00, if_true]
  · have hc := nI_clamp (n := j) (by omega)
    have hb : ux_ib (nI j) 12 = true := ux_ibn (by omega) (by omega)
    refine ⟨S.1 50 j, ux_i S 50 j 0, ux_i (ux_i S 50 j 0) 75 j 0, ?_, ?_, ?_⟩
    · rcases (g4 j (by omega)).1 with q | q <;> simp only [f_X7_loses, b_X7_loses_30, t_has3 g1, ux_bi_s, e, i10, i00, if_false, if_true, hb, gdt, hc, q, ux_nar0]
    · have g2' : (ux_i S 50 j 0).1 8 31 = nI nt := by simp (disch := omega) only [rd_ne]; exact g2
      have g75 : (ux_i S 50 j 0).1 75 j = S.1 50 j := by simp (disch := omega) only [rd_ne]; exact (g3 j hj).2.2
      rcases (g4 j (by omega)).1 with q | q <;> simp only [f_X8_loses, b_X8_loses_24, t_isMeter (by omega) g2', ux_bi_s, e, i10, i00, if_false, if_true, hb, gdt, hc, g75, q, ux_nar0]
    · refine offMet (by repeat (first | exact off.rf | refine off.up ?_ (by unfold PMet; omega))) h1 h2 h3 h4 h5 h6 ⟨g0, ?_, ?_, fun m hm => ?_, fun m hm => ?_⟩
      · simp (disch := omega) only [rd_ne]; exact g1
      · simp (disch := omega) only [rd_ne]; exact g2
      · simp (disch := omega) only [rd_ne, rd_if]
        refine ⟨(g3 m hm).1, (g3 m hm).2.1, ?_⟩
        by_cases q : m = j
        · simp only [q, if_true]
        · simp only [q, if_false]; exact (g3 m hm).2.2
      · simp (disch := omega) only [rd_ne, rd_if]
        by_cases q : m = j
        · simp only [q, if_true]
          exact ⟨Or.inl trivial, (g4 j (by omega)).2.1, fun _ => trivial⟩
        · simp only [q, if_false]; exact g4 m hm
