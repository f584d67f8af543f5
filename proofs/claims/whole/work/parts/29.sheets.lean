/-! sheets: sheet, lay -/
theorem lo8 (x : Int64) : ((x <<< ((56 : Int32).toInt64 &&& 63)) >>> ((56 : Int32).toInt64 &&& 63)) = x.toInt32.toInt8.toInt32.toInt64 := by
  apply Int64.toBitVec_inj.mp
  rw [Int64.toBitVec_shiftRight, Int64.toBitVec_shiftLeft, show (((56 : Int32).toInt64 &&& 63).toBitVec.smod 64) = 56#64 by decide]
  apply BitVec.eq_of_getLsbD_eq
  intro i hi
  have h1 : ¬ 64 ≤ i := by omega
  have h2 : ¬ 56 + i < 56 := by omega
  simp [BitVec.getLsbD_signExtend, BitVec.getLsbD_sshiftRight, BitVec.msb_eq_getLsbD_last]
  by_cases h : i < 8
  · have h3 : 56 + i < 64 := by omega
    simp [h, h1, h2, h3, hi]
  · have h3 : ¬ 56 + i < 64 := by omega
    simp [BitVec.getElem_signExtend, h, h1, h2, h3, hi]
theorem lo32 (x : Int64) : ((x <<< ((32 : Int32).toInt64 &&& 63)) >>> ((32 : Int32).toInt64 &&& 63)) = x.toInt32.toInt64 := by
  apply Int64.toBitVec_inj.mp
  rw [Int64.toBitVec_shiftRight, Int64.toBitVec_shiftLeft, show (((32 : Int32).toInt64 &&& 63).toBitVec.smod 64) = 32#64 by decide]
  apply BitVec.eq_of_getLsbD_eq
  intro i hi
  have h1 : ¬ 64 ≤ i := by omega
  have h2 : ¬ 32 + i < 32 := by omega
  simp [BitVec.getLsbD_signExtend, BitVec.getLsbD_sshiftRight, BitVec.msb_eq_getLsbD_last]
  by_cases h : i < 32
  · have h3 : 32 + i < 64 := by omega
    simp [h, h1, h2, h3, hi]
  · have h3 : ¬ 32 + i < 64 := by omega
    simp [BitVec.getElem_signExtend, h, h1, h2, h3, hi]
theorem rdl_ne {S : ux_S} {i a k b : Nat} {v : Int64} (h : i ≠ a) : (ux_l S a b v).2 i k = S.2 i k := ux_l_off (Or.inl h)
theorem rdl_if {S : ux_S} {i k b : Nat} {v : Int64} : (ux_l S i b v).2 i k = if k = b then v else S.2 i k := by
  by_cases h : k = b
  · subst h; rw [if_pos rfl, ux_l_same]
  · rw [if_neg h, ux_l_off (Or.inr h)]
/-- a row of longs cleared -/
def clr (S : ux_S) (a lo hi : Nat) (Z : ux_S) : Prop := Z.1 = S.1 ∧ ∀ i k, Z.2 i k = if i = a ∧ lo ≤ k ∧ k < hi then 0 else S.2 i k
theorem clr.rf {S : ux_S} {a lo : Nat} : clr S a lo lo S := ⟨rfl, fun i k => by rw [if_neg (by omega)]⟩
theorem clr.up {S Z : ux_S} {a lo hi : Nat} (h : clr S a lo hi Z) (hl : lo ≤ hi) : clr S a lo (hi + 1) (ux_l Z a hi 0) := by
  refine ⟨h.1, fun i k => ?_⟩
  by_cases e : i = a
  · subst e
    rw [rdl_if, h.2]
    by_cases q : k = hi
    · rw [if_pos q, if_pos (by omega)]
    · rw [if_neg q]
      by_cases q2 : lo ≤ k ∧ k < hi
      · rw [if_pos ⟨rfl, q2⟩, if_pos ⟨rfl, by omega⟩]
      · rw [if_neg (by omega), if_neg (by omega)]
  · rw [rdl_ne e, h.2, if_neg (by omega), if_neg (by omega)]
theorem t_fill64 {n : Nat} (hn : 70 ≤ n) (S : ux_S) (a : Nat) : ∃ Z, f_J7_fill_d0a16 n S a 64 0 = some Z ∧ clr S a 0 64 Z := by
  have key : ∀ t m T, m ≤ 64 → 64 < m + t → clr S a 0 m T → ∃ Z, ux_lp2 (b_J7_fill_d0a16_6 n a 64 0) t (nI m) (nI 64) T = some Z ∧ clr S a 0 64 Z := by
    intro t
    induction t with
    | zero => intro m T q1 q2; omega
    | succ t ih =>
      intro m T q1 q2 hT
      show ∃ Z, b_J7_fill_d0a16_6 n a 64 0 (ux_lp2 (b_J7_fill_d0a16_6 n a 64 0) t) (nI m) (nI 64) T = some Z ∧ _
      unfold b_J7_fill_d0a16_6
      by_cases hm : m < 64
      · rw [if_neg (nI_ge hm (by omega)), ux_ibn hm (by omega), gdt, nI_clamp (by omega), nI_1]
        exact ih (m + 1) _ (by omega) (by omega) (hT.up (by omega))
      · have : m = 64 := by omega
        subst this
        rw [if_pos (by decide)]
        exact ⟨T, rfl, hT⟩
  exact key n 0 S (by omega) (by omega) clr.rf
theorem ix64 {k i : Nat} : (64 : Int32) * nI k + nI i = nI (64 * k + i) := by
  rw [show (64 : Int32) = nI 64 from rfl, pk_mul, nI_add]
theorem t_clr8 {n : Nat} (hn : 70 ≤ n) (S : ux_S) {k : Nat} (hk : k < 4) (p1 p2 : Int32) : ∃ Z, ux_lp1 (b_X8_sheet_56 n (nI k) p1 p2) n 0 S = some (1, Z) ∧ clr S 65 (64 * k) (64 * k + 64) Z := by
  refine ux_lpi1 (α := Int32 × ux_S) (b := b_X8_sheet_56 n (nI k) p1 p2) 64 (fun m T => clr S 65 (64 * k) (64 * k + m) T) (fun o => ∃ Z, o = some (1, Z) ∧ clr S 65 (64 * k) (64 * k + 64) Z) ?_ ?_ n 0 S (by omega) (by omega) clr.rf
  · intro m T hm hT kk hk2
    unfold b_X8_sheet_56
    rw [show (64 : Int32) = nI 64 from rfl, if_neg (nI_ge hm (by omega)), show nI 64 = (64 : Int32) from rfl, ix64, ux_ibn (by omega) (by omega), gdt, nI_clamp (by omega), nI_1]
    exact hk2 _ (hT.up (by omega))
  · intro T hT kk
    unfold b_X8_sheet_56
    rw [if_pos (by decide)]
    exact ⟨T, rfl, hT⟩
theorem t_has6 (S : ux_S) (x : Int32) : f_X6_has S x = some (hs x 4, S) := by
  unfold f_X6_has; rw [show (4 : Int32) = nI 4 from rfl]; exact hs_if x 4 S
theorem ti_03 (S : ux_S) (x : Int32) : f_X8_in S x.toInt64 0 3 = some (hs x 4, S) := by
  have := t_inN S x (n := 4) (by omega)
  rwa [show (nI 4 - 1).toInt64 = 3 by decide] at this
theorem pr_sheet (n : Nat) (hn : 70 ≤ n) (p0 p1 p2 : Int32) : alike (fun S => f_X7_sheet n S p0 p1 p2) (fun S => f_X8_sheet n S p0 p1 p2) := by
  intro S hR
  obtain ⟨nr, nm, nf, nc, nt, h1, h2, h3, h4, h5, h6, h7⟩ := id hR
  rcases hs_cases p0 (n := 4) (by omega) with e | ⟨e, k, hk, rfl⟩
  · refine ⟨-1, S, S, ?_, ?_, hR⟩
    · simp only [f_X7_sheet, t_has6, ux_bi_s, e, i00, if_true]
    · simp only [f_X8_sheet, ti_03, ux_bi_s, e, i00, if_true]
  · rcases ir_cases p1 0 2 with ⟨e1, -⟩ | ⟨e1, h8⟩
    · refine ⟨-1, S, S, ?_, ?_, hR⟩
      · simp only [f_X7_sheet, t_has6, t_isLane, ux_bi_s, e, e1, i10, if_false, i00, if_true]
      · simp only [f_X8_sheet, ti_03, ti_0_2, ux_bi_s, e, e1, i10, if_false, i00, if_true]
    · by_cases q : p2 ≤ 64
      · by_cases q2 : 0 ≤ p2
        · obtain ⟨sz, -, hsz, rfl⟩ := rg_nI (ir_rg ⟨q2, q⟩ (by decide) (by decide) : rg 0 64 p2) (by decide)
          have hc := nI_clamp (n := k) (by omega)
          have hb : ux_ib (nI k) 4 = true := ux_ibn (by omega) (by omega)
          obtain ⟨Z, z1, z2, z3⟩ := t_fill64 hn S (35 + 1 + k)
          obtain ⟨Y, y1, y2, y3⟩ := t_clr8 hn (ux_i (ux_i (ux_i (ux_i Z 40 k p1) 41 k (nI sz)) 63 k p1) 64 k (nI sz)) hk p1 (nI sz)
          refine ⟨1, ux_i (ux_i Z 40 k p1) 41 k (nI sz), Y, ?_, ?_, ?_⟩
          · simp only [f_X7_sheet, f_X6_renew, t_has6, t_isLane, ux_bi_s, ux_bv_s, e, e1, i10, if_false, q, q2, if_true, hb, gdt, hc, z1]
          · simp only [f_X8_sheet, ti_03, ti_0_2, ux_bi_s, e, e1, i10, if_false, q, q2, if_true, hb, gdt, hc]
            exact y1
          · have o : ∀ i j, i ≠ 40 → i ≠ 41 → i ≠ 63 → i ≠ 64 → Y.1 i j = S.1 i j := by
              intro i j a1 a2 a3 a4
              rw [y2, rd_ne a4, rd_ne a3, rd_ne a2, rd_ne a1, z2]
            refine ⟨nr, nm, nf, nc, nt, h1.cong (fun i j q => o i j (by unfold PHall at q; omega) (by unfold PHall at q; omega) (by unfold PHall at q; omega) (by unfold PHall at q; omega)), h2.cong (fun i j q => o i j (by unfold PPrices at q; omega) (by unfold PPrices at q; omega) (by unfold PPrices at q; omega) (by unfold PPrices at q; omega)), h3.cong (fun i j q => o i j (by unfold PMach at q; omega) (by unfold PMach at q; omega) (by unfold PMach at q; omega) (by unfold PMach at q; omega)), ?_, h5.cong (fun i j q => o i j (by unfold PFeed at q; omega) (by unfold PFeed at q; omega) (by unfold PFeed at q; omega) (by unfold PFeed at q; omega)), h6.cong (fun i j q => o i j (by unfold PAlarm at q; omega) (by unfold PAlarm at q; omega) (by unfold PAlarm at q; omega) (by unfold PAlarm at q; omega)), h7.cong (fun i j q => o i j (by unfold PMet at q; omega) (by unfold PMet at q; omega) (by unfold PMet at q; omega) (by unfold PMet at q; omega))⟩
            intro a ha
            obtain ⟨s1, s2⟩ := h4 a ha
            refine ⟨?_, fun i hi => ?_⟩
            · rw [y2]
              simp (disch := omega) only [rd_ne, rd_if]
              rw [z2]
              by_cases qa : a = k
              · simp only [qa, if_true]
                exact Or.inr ⟨sz, by omega, rfl, rfl, trivial, ir_rg h8 (by decide) (by decide)⟩
              · simp only [qa, if_false]
                exact s1
            · have zz : ∀ x y, (ux_i (ux_i (ux_i (ux_i Z 40 k p1) 41 k (nI sz)) 63 k p1) 64 k (nI sz)).2 x y = Z.2 x y := fun x y => rfl
              have l1 : Y.2 65 (64 * a + i) = if a = k then 0 else S.2 65 (64 * a + i) := by
                rw [y3, zz, z3]
                by_cases qa : a = k
                · rw [if_pos qa, if_pos (by omega)]
                · rw [if_neg qa, if_neg (by omega), if_neg (by omega)]
              have l2 : Y.2 (36 + a) i = if a = k then 0 else S.2 (36 + a) i := by
                rw [y3, zz, z3, if_neg (c := 36 + a = 65 ∧ _) (by omega)]
                by_cases qa : a = k
                · rw [if_pos qa, if_pos (by omega)]
                · rw [if_neg qa, if_neg (by omega)]
              rw [l1, l2, s2 i hi]
        · refine ⟨-14, S, S, ?_, ?_, hR⟩
          · simp only [f_X7_sheet, t_has6, t_isLane, ux_bi_s, e, e1, i10, if_false, q, q2, if_true]
          · simp only [f_X8_sheet, ti_03, ti_0_2, ux_bi_s, e, e1, i10, if_false, q, q2, if_true]
      · refine ⟨-1, S, S, ?_, ?_, hR⟩
        · simp only [f_X7_sheet, t_has6, t_isLane, ux_bi_s, e, e1, i10, if_false, q]
        · simp only [f_X8_sheet, ti_03, ti_0_2, ux_bi_s, e, e1, i10, if_false, q]
theorem t_noth {S : ux_S} {k : Nat} (hk : k < 4) : f_X6_isNothing S (nI k) = some (if S.1 41 k = -1 then 1 else 0, S) := by
  unfold f_X6_isNothing
  rw [ux_ibn hk (by omega), gdt, nI_clamp (by omega)]
  by_cases h : S.1 41 k = -1
  · rw [if_pos h, if_pos h]
  · rw [if_neg h, if_neg h]
theorem t_hascell {S : ux_S} {k sz : Nat} (hk : k < 4) (h : S.1 41 k = nI sz) (x : Int32) : f_X6_hasCell S (nI k) x = some (hs x sz, S) := by
  unfold f_X6_hasCell
  rw [ux_ibn hk (by omega), gdt, nI_clamp (by omega), h]
  exact hs_if x sz S
theorem nm1 {g : Nat} (hg : g < 2 ^ 31) : ¬ nI g = -1 := by
  intro q
  have := nI_pos (n := g) hg
  rw [q] at this
  exact this (by decide)
theorem pr_lay (p0 p1 : Int32) (p2 : Int64) : alike (fun S => f_X7_lay S p0 p1 p2) (fun S => f_X8_lay S p0 p1 p2) := by
  intro S hR
  obtain ⟨nr, nm, nf, nc, nt, h1, h2, h3, h4, h5, h6, h7⟩ := id hR
  rcases hs_cases p0 (n := 4) (by omega) with e | ⟨e, k, hk, rfl⟩
  · refine ⟨-1, S, S, ?_, ?_, hR⟩
    · simp only [f_X7_lay, t_has6, ux_bi_s, e, i00, if_true]
    · simp only [f_X8_lay, ti_03, ux_bi_s, e, i00, if_true]
  · have hc := nI_clamp (n := k) (by omega)
    have hb : ux_ib (nI k) 4 = true := ux_ibn (by omega) (by omega)
    rcases (h4 k hk).1 with ⟨s1, s2⟩ | ⟨sz, z0, z1, z2, z3, z4⟩
    · refine ⟨-11, S, S, ?_, ?_, hR⟩
      · simp only [f_X7_lay, t_has6, t_noth hk, ux_bi_s, e, i10, if_false, s1, if_true]
      · simp only [f_X8_lay, ti_03, ux_bi_s, e, i10, if_false, hb, gdt, hc, s2, if_true]
    · have hlane : ¬ S.1 40 k = -4 := by
        intro q
        have := z4.1
        rw [q] at this
        exact absurd this (by decide)
      have hm1 : ¬ nI sz = -1 := nm1 (by omega)
      rcases hs_cases p1 (n := sz) (by omega) with e1 | ⟨e1, i, hi, rfl⟩
      · refine ⟨-12, S, S, ?_, ?_, hR⟩
        · simp only [f_X7_lay, t_has6, t_noth hk, t_hascell hk z1, ux_bi_s, e, i10, if_false, z1, hm1, i00, if_true, e1]
        · simp only [f_X8_lay, ti_03, ux_bi_s, e, i10, if_false, hb, gdt, hc, z3, hlane, z2, t_inN S p1 (n := sz) (by omega), e1, i00, if_true]
      · have hci := nI_clamp (n := i) (by omega)
        have hbi : ux_ib (nI i) 64 = true := ux_ibn (by omega) (by omega)
        have hcx := nI_clamp (n := 64 * k + i) (by omega)
        have hbx : ux_ib (nI (64 * k + i)) 256 = true := ux_ibn (by omega) (by omega)
        have fin : ∀ v : Int64, Rel (ux_l (ux_l S (36 + k) i v) 65 (64 * k + i) v) := by
          intro v
          refine ⟨nr, nm, nf, nc, nt, h1.cong (fun _ _ _ => rfl), h2.cong (fun _ _ _ => rfl), h3.cong (fun _ _ _ => rfl), fun a ha => ⟨(h4 a ha).1, fun b hb2 => ?_⟩, h5.cong (fun _ _ _ => rfl), h6.cong (fun _ _ _ => rfl), h7.cong (fun _ _ _ => rfl)⟩
          rw [rdl_if, rdl_ne (by omega), rdl_ne (by omega)]
          by_cases qa : a = k
          · subst qa
            rw [rdl_if]
            by_cases qb : b = i
            · subst qb
              rw [if_pos rfl, if_pos rfl]
            · rw [if_neg (by omega), if_neg qb]
              exact (h4 a ha).2 b hb2
          · rw [if_neg (by omega), rdl_ne (by omega)]
            exact (h4 a ha).2 b hb2
        have low : ∃ v, f_X7_lowestBits S (S.1 40 k) p2 = some (v, S) ∧ ∀ A : ux_S, A.1 = S.1 → f_X8_lay A (nI k) (nI i) p2 = some (1, ux_l A 65 (64 * k + i) v) := by
          obtain ⟨L, -, l2, hL⟩ := rg_nI z4 (by decide)
          have hL3 : L = 0 ∨ L = 1 ∨ L = 2 := by omega
          rcases hL3 with rfl | rfl | rfl
          · refine ⟨_, by rw [hL]; unfold f_X7_lowestBits; rw [if_pos (by decide)], fun A hA => ?_⟩
            have hq : A.1 63 k = 0 := by rw [hA, z3, hL]; rfl
            simp only [f_X8_lay, ti_03, ux_bi_s, e, i10, if_false, hb, gdt, hc, hq, hA, z2, t_inN A (nI i) (n := sz) (by omega), e1, ix64, hbx, hcx, lo8, if_true, show ((0 : Int32) = -4) = False by decide]
          · refine ⟨_, by rw [hL]; unfold f_X7_lowestBits; rw [if_neg (by decide), if_pos (by decide)], fun A hA => ?_⟩
            have hq : A.1 63 k = 1 := by rw [hA, z3, hL]; rfl
            simp only [f_X8_lay, ti_03, ux_bi_s, e, i10, if_false, hb, gdt, hc, hq, hA, z2, t_inN A (nI i) (n := sz) (by omega), e1, ix64, hbx, hcx, lo32, if_true, show ((1 : Int32) = -4) = False by decide]
          · refine ⟨_, by rw [hL]; unfold f_X7_lowestBits; rw [if_neg (by decide), if_neg (by decide)], fun A hA => ?_⟩
            have hq : A.1 63 k = 2 := by rw [hA, z3, hL]; rfl
            simp only [f_X8_lay, ti_03, ux_bi_s, e, i10, if_false, hb, gdt, hc, hq, hA, z2, t_inN A (nI i) (n := sz) (by omega), e1, ix64, hbx, hcx, show ((2 : Int32) = -4) = False by decide, show ((2 : Int32) = 0) = False by decide, show ((2 : Int32) = 1) = False by decide]
        obtain ⟨v, v1, v2⟩ := low
        refine ⟨1, ux_l S (36 + k) i v, ux_l (ux_l S (36 + k) i v) 65 (64 * k + i) v, ?_, v2 _ rfl, fin v⟩
        simp only [f_X7_lay, t_has6, t_noth hk, t_hascell hk z1, ux_bi_s, e, i10, if_false, z1, hm1, i00, if_true, e1, hb, gdt, hc, v1, hbi, hci]
