/-! feed, plug, fail -/
theorem t_fadd {S : ux_S} {nf : Nat} (h : S.1 5 4 = nI nf) (hn : nf < 16) (a b : Int32) : f_X1_add S a b = some (nI nf, ux_i (ux_i (ux_i S 42 nf a) 43 nf b) 5 4 (nI (nf + 1))) := by
  have hl : nI nf < 16 := by rw [show (16 : Int32) = nI 16 from rfl]; exact nI_lt hn (by omega)
  have hb : ux_ib (nI nf) 16 = true := ux_ibn hn (by omega)
  have hc := nI_clamp (n := nf) (by omega)
  unfold f_X1_add
  simp (disch := omega) only [h, hl, if_true, rd_ne, hb, gdt, hc, ux_i_same, nI_succ, nIs]
theorem t_ffull {S : ux_S} (h : S.1 5 4 = nI 16) (a b : Int32) : f_X1_add S a b = some (-3, S) := by
  unfold f_X1_add
  rw [h, if_neg (by decide)]
theorem hs_nI {g n : Nat} (hg : g < n) (hn : n < 2 ^ 31) : hs (nI g) n = 1 := by
  unfold hs
  rw [if_neg]
  rintro (q | q)
  · exact nI_pos (by omega) q
  · exact nI_ge hg hn q
theorem nI_nm4 {g : Nat} (hg : g < 2 ^ 31) : ¬ nI g = -4 := by
  intro q
  have := nI_pos (n := g) hg
  rw [q] at this
  exact this (by decide)
theorem pr_feed (n : Nat) (p0 p1 : Int32) : alike (fun S => f_X7_feed n S p0 p1) (fun S => f_X8_feed n S p0 p1) := by
  intro S hR
  obtain ⟨nr, nm, nf, nc, nt, h1, h2, h3, h4, h5, h6, h7⟩ := id hR
  obtain ⟨g0, g1, g2, g3, g4, ⟨F, e1, e2, e3⟩, g6⟩ := id h5
  have key : (p0 = -4 ∨ ∃ g, g < nf ∧ p0 = nI g) → (f_X7_feed n S p0 p1 = b_X7_feed_17 n p0 p1 S ∧ ∀ A : ux_S, A.1 8 22 = nI nf → f_X8_feed n A p0 p1 = b_X8_feed_22 n p0 p1 A) := by
    intro h
    rcases h with rfl | ⟨g, hg, rfl⟩
    · refine ⟨?_, fun A hA => ?_⟩
      · simp only [f_X7_feed, if_true]
      · simp only [f_X8_feed, if_true]
    · refine ⟨?_, fun A hA => ?_⟩
      · simp only [f_X7_feed, nI_nm4 (g := g) (by omega), if_false, t_has1 g1, ux_bi_s, hs_nI hg (by omega), i10]
      · simp only [f_X8_feed, nI_nm4 (g := g) (by omega), if_false, hA, t_inN A (nI g) (n := nf) (by omega), ux_bi_s, hs_nI hg (by omega), i10]
  by_cases hok : p0 = -4 ∨ ∃ g, g < nf ∧ p0 = nI g
  · obtain ⟨k1, k2⟩ := key hok
    rcases ir_cases p1 0 10000 with ⟨e, -⟩ | ⟨e, h8⟩
    · refine ⟨-1, S, S, ?_, ?_, hR⟩
      · show f_X7_feed n S p0 p1 = _
        rw [k1]
        simp only [b_X7_feed_17, b_X7_feed_32, b_X7_feed_33, t_within, ux_bi_s, e, i00, if_true]
      · show f_X8_feed n S p0 p1 = _
        rw [k2 S g2]
        simp only [b_X8_feed_22, ti_0_10000, ux_bi_s, e, i00, if_true]
    · by_cases hf : nf = 16
      · subst hf
        refine ⟨-3, S, S, ?_, ?_, hR⟩
        · show f_X7_feed n S p0 p1 = _
          rw [k1]
          simp only [b_X7_feed_17, b_X7_feed_32, b_X7_feed_33, t_within, ux_bi_s, e, i10, if_false, t_ffull g1]
        · show f_X8_feed n S p0 p1 = _
          rw [k2 S g2]
          simp only [b_X8_feed_22, ti_0_10000, ux_bi_s, e, i10, if_false, g2]
          rw [if_pos (by decide)]
      · have hne : ¬ nI nf = 16 := by rw [show (16 : Int32) = nI 16 from rfl, nI_eq (by omega) (by omega)]; exact hf
        have hib : ux_ib (nI nf) 16 = true := ux_ibn (by omega) (by omega)
        have hc := nI_clamp (n := nf) (by omega)
        refine ⟨nI nf, ux_i (ux_i (ux_i S 42 nf p0) 43 nf p1) 5 4 (nI (nf + 1)), ux_i (ux_i (ux_i (ux_i (ux_i (ux_i S 42 nf p0) 43 nf p1) 5 4 (nI (nf + 1))) 69 nf p0) 70 nf p1) 8 22 (nI (nf + 1)), ?_, ?_, ?_⟩
        · show f_X7_feed n S p0 p1 = _
          rw [k1]
          simp only [b_X7_feed_17, b_X7_feed_32, b_X7_feed_33, t_within, ux_bi_s, e, i10, if_false, t_fadd g1 (by omega : nf < 16)]
        · show f_X8_feed n _ p0 p1 = _
          rw [k2 _ (by simp (disch := omega) only [rd_ne]; exact g2)]
          simp (disch := omega) only [b_X8_feed_22, ti_0_10000, ux_bi_s, e, i10, if_false, rd_ne, g2, hne, hib, gdt, hc, ux_i_same, nI_succ, nIs]
        · refine offFeed (nf := nf + 1) (by repeat (first | exact off.rf | refine off.up ?_ (by unfold PFeed; omega))) h1 h2 h3 h4 ⟨by omega, ?_, ?_, ?_, fun f hf2 => ?_, ⟨F, e1, ?_, fun f hf2 => ?_⟩, fun r w hr hw => ?_⟩ h6 h7
          · simp (disch := omega) only [rd_ne, ux_i_same]
          · rw [ux_i_same]
          · simp (disch := omega) only [rd_ne, rd_nk]; exact g3
          · simp (disch := omega) only [rd_ne, rd_if]
            by_cases q : f = nf
            · simp only [q, if_true]
              refine ⟨⟨trivial, ?_⟩, trivial, ir_rg h8 (by decide) (by decide)⟩
              rcases hok with q | ⟨g, hg, q⟩
              · exact Or.inl q
              · exact Or.inr ⟨g, hg, q⟩
            · simp only [q, if_false]
              exact g4 f (by omega)
          · simp (disch := omega) only [rd_ne, rd_nk]; exact e2
          · simp (disch := omega) only [rd_ne]
            exact ⟨(e3 f hf2).1, fun q => (e3 f hf2).2 (by omega)⟩
          · simp (disch := omega) only [rd_ne]
            refine ⟨(g6 r w hr hw).1, ?_⟩
            rcases (g6 r w hr hw).2 with q | ⟨q, g, hg, q2⟩
            · exact Or.inl q
            · exact Or.inr ⟨q, g, by omega, q2⟩
  · have hne : ¬ p0 = -4 := fun q => hok (Or.inl q)
    have hh : hs p0 nf = 0 := (hs_cases p0 (n := nf) (by omega)).elim id (fun h => absurd (Or.inr h.2) hok)
    refine ⟨-1, S, S, ?_, ?_, hR⟩
    · simp only [f_X7_feed, b_X7_feed_32, b_X7_feed_33, hne, if_false, t_has1 g1, ux_bi_s, hh, i00, if_true]
    · simp only [f_X8_feed, hne, if_false, g2, t_inN S p0 (n := nf) (by omega), ux_bi_s, hh, i00, if_true]
theorem pr_plug (n : Nat) (p0 p1 p2 : Int32) : alike (fun S => f_X7_plug n S p0 p1 p2) (fun S => f_X8_plug n S p0 p1 p2) := by
  intro S hR
  obtain ⟨nr, nm, nf, nc, nt, h1, h2, h3, h4, h5, h6, h7⟩ := id hR
  obtain ⟨r0, r1, r2, -⟩ := id h1
  obtain ⟨g0, g1, g2, g3, g4, ⟨F, e1, e2, e3⟩, g6⟩ := id h5
  rcases hs_cases p0 (n := nr) (by omega) with e | ⟨e, r, hr, rfl⟩
  · refine ⟨-1, S, S, ?_, ?_, hR⟩
    · simp only [f_X7_plug, t_has2 r1, ux_bi_s, e, i00, if_true]
    · simp only [f_X8_plug, t_isRack (by omega) r2, ux_bi_s, e, i00, if_true]
  · rcases ir_cases p1 0 1 with ⟨ea, -⟩ | ⟨ea, h8⟩
    · refine ⟨-1, S, S, ?_, ?_, hR⟩
      · simp only [f_X7_plug, t_has2 r1, t_within, ux_bi_s, e, ea, i10, if_false, i00, if_true]
      · simp only [f_X8_plug, t_isRack (by omega) r2, ti_0_1, ux_bi_s, e, ea, i10, if_false, i00, if_true]
    · obtain ⟨w, -, hw0, rfl⟩ := rg_nI (ir_rg h8 (by decide) (by decide) : rg 0 1 p1) (by decide)
      have hw : w < 2 := by omega
      have key : (p2 = -4 ∨ ∃ g, g < nf ∧ p2 = nI g) → (f_X7_plug n S (nI r) (nI w) p2 = b_X7_plug_39 n (nI r) (nI w) p2 S ∧ ∀ A : ux_S, A.1 8 0 = nI nr → A.1 8 22 = nI nf → f_X8_plug n A (nI r) (nI w) p2 = b_X8_plug_34 n (nI r) (nI w) p2 A) := by
        intro h
        rcases h with rfl | ⟨g, hg, rfl⟩
        · refine ⟨?_, fun A hA hA2 => ?_⟩
          · simp only [f_X7_plug, t_has2 r1, t_within, ux_bi_s, e, ea, i10, if_false, if_true]
          · simp only [f_X8_plug, t_isRack (by omega) hA, ti_0_1, ux_bi_s, e, ea, i10, if_false, if_true]
        · refine ⟨?_, fun A hA hA2 => ?_⟩
          · simp only [f_X7_plug, t_has2 r1, t_within, ux_bi_s, e, ea, i10, if_false, nI_nm4 (g := g) (by omega), t_has1 g1, hs_nI hg (by omega)]
          · simp only [f_X8_plug, t_isRack (by omega) hA, ti_0_1, ux_bi_s, e, ea, i10, if_false, nI_nm4 (g := g) (by omega), t_isFeed (by omega) hA2, hs_nI hg (by omega)]
      by_cases hok : p2 = -4 ∨ ∃ g, g < nf ∧ p2 = nI g
      · obtain ⟨k1, k2⟩ := key hok
        have hcr := nI_clamp (n := r) (by omega)
        have hcw := nI_clamp (n := w) (by omega)
        have hc1 := nI_clamp (n := 1 - w) (by omega)
        have hcx := nI_clamp (n := 2 * r + w) (by omega)
        have hcy := nI_clamp (n := 2 * r + (1 - w)) (by omega)
        have hbr : ux_ib (nI r) 8 = true := ux_ibn (by omega) (by omega)
        have hbw : ux_ib (nI w) 2 = true := ux_ibn (by omega) (by omega)
        have hb1 : ux_ib (nI (1 - w)) 2 = true := ux_ibn (by omega) (by omega)
        have hbx : ux_ib (nI (2 * r + w)) 16 = true := ux_ibn (by omega) (by omega)
        have hby : ux_ib (nI (2 * r + (1 - w))) 16 = true := ux_ibn (by omega) (by omega)
        have q1 : (1 : Int32) - nI w = nI (1 - w) := by rw [show (1 : Int32) = nI 1 from rfl, pk_sub (by omega)]
        have q2 : (2 : Int32) * nI r = nI (2 * r) := by rw [show (2 : Int32) = nI 2 from rfl, pk_mul]
        have q3 : nI (2 * r) + nI w = nI (2 * r + w) := nI_add _ _
        have q4 : nI (2 * r) + 1 - nI w = nI (2 * r + (1 - w)) := by
          rw [nI_1, pk_sub (by omega)]
          congr 1
          omega
        by_cases hst : p2 ≠ -4 ∧ S.1 (45 + (1 - w)) r = p2
        · refine ⟨-2, S, S, ?_, ?_, hR⟩
          · show f_X7_plug n S (nI r) (nI w) p2 = _
            rw [k1]
            simp only [b_X7_plug_39, hst.1, if_false, q1, hb1, hbr, gdt, hc1, hcr]
            rw [if_pos hst.2]
          · show f_X8_plug n S (nI r) (nI w) p2 = _
            rw [k2 S r2 g2]
            simp only [b_X8_plug_34, hst.1, if_false, q2, q4, hby, gdt, hcy]
            rw [(g6 r (1 - w) (by omega) (by omega)).1 hr, if_pos hst.2]
        · refine ⟨S.1 (45 + w) r, ux_i S (45 + w) r p2, ux_i (ux_i S (45 + w) r p2) 72 (2 * r + w) p2, ?_, ?_, ?_⟩
          · show f_X7_plug n S (nI r) (nI w) p2 = _
            rw [k1]
            have hfin : b_X7_plug_65 n (nI r) (nI w) p2 S = some (S.1 (45 + w) r, ux_i S (45 + w) r p2) := by
              simp only [b_X7_plug_65, hbw, hbr, gdt, hcw, hcr]
            unfold b_X7_plug_39
            by_cases hq : p2 = -4
            · rw [if_pos hq, hfin]
            · rw [if_neg hq]
              simp only [q1, hb1, hbr, gdt, hc1, hcr]
              rw [if_neg (fun q => hst ⟨hq, q⟩), hfin]
          · show f_X8_plug n _ (nI r) (nI w) p2 = _
            have hx1 : (ux_i S (45 + w) r p2).1 8 0 = nI nr := by simp (disch := omega) only [rd_ne]; exact r2
            have hx2 : (ux_i S (45 + w) r p2).1 8 22 = nI nf := by simp (disch := omega) only [rd_ne]; exact g2
            rw [k2 _ hx1 hx2]
            have hfin : b_X8_plug_59 n (nI r) (nI w) p2 (ux_i S (45 + w) r p2) = some (S.1 (45 + w) r, ux_i (ux_i S (45 + w) r p2) 72 (2 * r + w) p2) := by
              simp only [b_X8_plug_59, q2, q3, hbx, gdt, hcx]
              rw [rd_ne (by omega), (g6 r w (by omega) hw).1 hr]
            unfold b_X8_plug_34
            by_cases hq : p2 = -4
            · rw [if_pos hq, hfin]
            · rw [if_neg hq]
              simp only [q2, q4, hby, gdt, hcy]
              rw [rd_ne (by omega), (g6 r (1 - w) (by omega) (by omega)).1 hr, if_neg (fun q => hst ⟨hq, q⟩), hfin]
          · refine offFeed (by repeat (first | exact off.rf | refine off.up ?_ (by unfold PFeed; omega))) h1 h2 h3 h4 ⟨g0, ?_, ?_, ?_, fun f hf2 => ?_, ⟨F, e1, ?_, fun f hf2 => ?_⟩, fun a b ha hb => ?_⟩ h6 h7
            · simp (disch := omega) only [rd_ne]; exact g1
            · simp (disch := omega) only [rd_ne]; exact g2
            · simp (disch := omega) only [rd_ne]; exact g3
            · simp (disch := omega) only [rd_ne]; exact g4 f hf2
            · simp (disch := omega) only [rd_ne]; exact e2
            · simp (disch := omega) only [rd_ne]; exact e3 f hf2
            · simp (disch := omega) only [rd_ne, rd_if]
              by_cases qb : b = w
              · subst qb
                rw [rd_if]
                by_cases qa : a = r
                · subst qa
                  rw [if_pos rfl, if_pos rfl]
                  refine ⟨fun _ => rfl, ?_⟩
                  rcases hok with q | q
                  · exact Or.inl q
                  · exact Or.inr ⟨hr, q⟩
                · rw [if_neg (by omega), if_neg qa]
                  exact g6 a b ha hb
              · rw [if_neg (by omega), rd_ne (by omega)]
                exact g6 a b ha hb
      · have hne : ¬ p2 = -4 := fun q => hok (Or.inl q)
        have hh : hs p2 nf = 0 := (hs_cases p2 (n := nf) (by omega)).elim id (fun h => absurd (Or.inr h.2) hok)
        refine ⟨-1, S, S, ?_, ?_, hR⟩
        · simp only [f_X7_plug, t_has2 r1, t_within, ux_bi_s, e, ea, i10, if_false, hne, t_has1 g1, hh, i00, if_true]
        · simp only [f_X8_plug, t_isRack (by omega) r2, ti_0_1, ux_bi_s, e, ea, i10, if_false, hne, t_isFeed (by omega) g2, hh, i00, if_true]
/-! bits -/
theorem shf : ∀ f, f < 32 → ((nI f &&& 31).toBitVec.smod 32).toNat = f := by decide
theorem sh1 {f : Nat} (h : f < 31) : (1 : Int32) <<< (nI f &&& 31) = nI (2 ^ f) := by
  have h2 : 2 ^ f < 2 ^ 31 := Nat.pow_lt_pow_right (by omega) h
  have := pk_shlN (n := 1) (nI f &&& 31) f (shf f (by omega)) (by omega)
  rw [show nI 1 = (1 : Int32) from rfl] at this
  rw [this, Nat.one_mul]
theorem shr {F f : Nat} (h : f < 32) (hF : F < 2 ^ 31) : nI F >>> (nI f &&& 31) = nI (F / 2 ^ f) := pk_shrN hF (nI f &&& 31) f (shf f h)
theorem bit_at {F f : Nat} (h : f < 32) (hF : F < 2 ^ 31) : (nI F >>> (nI f &&& 31)) &&& 1 = if F.testBit f then 1 else 0 := by
  have h3 : F / 2 ^ f ≤ F := Nat.div_le_self _ _
  rw [shr h hF, pk_andN (by omega) 1 (by decide), Nat.testBit_eq_decide_div_mod_eq]
  have : F / 2 ^ f % 2 ^ 1 = 0 ∨ F / 2 ^ f % 2 ^ 1 = 1 := by omega
  rcases this with q | q
  · rw [q, if_neg (by simp at q ⊢; try omega)]; rfl
  · rw [q, if_pos (by simp at q ⊢; try omega)]; rfl
theorem bit_set {F f : Nat} (h : f < 31) : nI F ||| ((1 : Int32) <<< (nI f &&& 31)) = nI (F ||| 2 ^ f) := by rw [sh1 h, fa_or]
theorem bit_msk : ∀ f, f < 16 → (nI 65535 &&& (nI (2 ^ f) ^^^ (-1))) = nI (65535 ^^^ 2 ^ f) := by decide
theorem bit_clr {F f : Nat} (h : f < 16) (hF : F < 65536) : nI F &&& (((1 : Int32) <<< (nI f &&& 31)) ^^^ (-1)) = nI (F &&& (65535 ^^^ 2 ^ f)) := by
  have e : nI F = nI F &&& nI 65535 := by rw [show 65535 = 2 ^ 16 - 1 from rfl, fa_mask, Nat.mod_eq_of_lt hF]
  rw [e, sh1 (by omega), Int32.and_assoc, bit_msk f h, fa_and]
theorem pr_fail (n : Nat) (p0 p1 : Int32) (hp : p1 = 0 ∨ p1 = 1) : alike (fun S => f_X7_fail S p0 p1) (fun S => f_X8_fail n S p0 p1) := by
  intro S hR
  obtain ⟨nr, nm, nf, nc, nt, h1, h2, h3, h4, h5, h6, h7⟩ := id hR
  obtain ⟨g0, g1, g2, g3, g4, ⟨F, e1, e2, e3⟩, g6⟩ := id h5
  rcases hs_cases p0 (n := nf) (by omega) with e | ⟨e, f, hf, rfl⟩
  · refine ⟨-1, S, S, ?_, ?_, hR⟩
    · simp only [f_X7_fail, t_has1 g1, ux_bi_s, e, i00, if_true]
    · simp only [f_X8_fail, t_isFeed (by omega) g2, ux_bi_s, e, i00, if_true]
  · have hc := nI_clamp (n := f) (by omega)
    have hb : ux_ib (nI f) 16 = true := ux_ibn (by omega) (by omega)
    have hnar : vp_nar .boolean p1 = p1 := by rcases hp with rfl | rfl <;> decide
    have fin : ∀ F2 : Nat, F2 < 65536 → (∀ g, g < 16 → F2.testBit g = if g = f then decide (p1 = 1) else F.testBit g) → Rel (ux_i (ux_i S 5 5 (nI F2)) 71 f p1) := by
      intro F2 hF2 hb2
      refine offFeed (by repeat (first | exact off.rf | refine off.up ?_ (by unfold PFeed; omega))) h1 h2 h3 h4 ⟨g0, ?_, ?_, ?_, fun a ha => ?_, ⟨F2, hF2, ?_, fun a ha => ?_⟩, fun a b ha hb => ?_⟩ h6 h7
      · simp (disch := omega) only [rd_ne, rd_nk]; exact g1
      · simp (disch := omega) only [rd_ne]; exact g2
      · simp (disch := omega) only [rd_ne]; exact g3
      · simp (disch := omega) only [rd_ne]; exact g4 a ha
      · simp (disch := omega) only [rd_ne, ux_i_same]
      · simp (disch := omega) only [rd_ne, rd_if]
        rw [hb2 a ha]
        by_cases q : a = f
        · subst q
          rw [if_pos rfl, if_pos rfl]
          refine ⟨?_, fun q => absurd hf (by omega)⟩
          rcases hp with rfl | rfl <;> decide
        · rw [if_neg q, if_neg q]
          exact e3 a ha
      · simp (disch := omega) only [rd_ne]; exact g6 a b ha hb
    have hm : ∀ A : ux_S, A.1 8 22 = nI nf → A.1 71 f = S.1 71 f → f_X8_fail n A (nI f) p1 = some (S.1 71 f, ux_i A 71 f p1) := by
      intro A hA hA2
      rcases (by by_cases q : F.testBit f = true <;> simp [(e3 f (by omega)).1, q] : S.1 71 f = 0 ∨ S.1 71 f = 1) with q | q <;> simp only [f_X8_fail, b_X8_fail_24, t_isFeed (by omega) hA, ux_bi_s, e, i10, i00, if_true, if_false, hb, gdt, hc, hA2, q, hnar]
    rcases hp with rfl | rfl
    · refine ⟨S.1 71 f, ux_i S 5 5 (nI (F &&& (65535 ^^^ 2 ^ f))), ux_i (ux_i S 5 5 (nI (F &&& (65535 ^^^ 2 ^ f)))) 71 f 0, ?_, ?_, ?_⟩
      · simp only [f_X7_fail, t_has1 g1, ux_bi_s, e, i10, if_false, if_true, e2, bit_clr (f := f) (by omega) e1, bit_at (f := f) (by omega) (by omega : F < 2 ^ 31)]
        rw [(e3 f (by omega)).1]
      · exact hm _ (by simp (disch := omega) only [rd_ne]; exact g2) (by simp (disch := omega) only [rd_ne])
      · refine fin _ (Nat.lt_of_le_of_lt Nat.and_le_left e1) (fun g hg => ?_)
        rw [Nat.testBit_and, Nat.testBit_xor, Nat.testBit_two_pow, show (65535 : Nat) = 2 ^ 16 - 1 from rfl, Nat.testBit_two_pow_sub_one]
        by_cases q : g = f
        · subst q
          simp [hg]
        · have q2 : ¬ f = g := fun h => q h.symm
          simp [hg, q, q2]
    · refine ⟨S.1 71 f, ux_i S 5 5 (nI (F ||| 2 ^ f)), ux_i (ux_i S 5 5 (nI (F ||| 2 ^ f))) 71 f 1, ?_, ?_, ?_⟩
      · simp only [f_X7_fail, t_has1 g1, ux_bi_s, e, i10, if_false, e2, bit_set (F := F) (f := f) (by omega), bit_at (f := f) (by omega) (by omega : F < 2 ^ 31)]
        rw [(e3 f (by omega)).1]
      · exact hm _ (by simp (disch := omega) only [rd_ne]; exact g2) (by simp (disch := omega) only [rd_ne])
      · refine fin _ (Nat.or_lt_two_pow (n := 16) e1 (Nat.pow_lt_pow_right (by omega) (by omega))) (fun g hg => ?_)
        rw [Nat.testBit_or, Nat.testBit_two_pow]
        by_cases q : g = f
        · subst q
          simp
        · have q2 : ¬ f = g := fun h => q h.symm
          simp [q, q2]
