theorem t_know {n : Nat} (hn : 20 ≤ n) {S0 S : ux_S} {nt : Nat} (h : RMet S nt) : ∃ U, f_X8_know n S = some U ∧ hM S nt (fx (S.1 49) nt (nt + 1) (kv0 S)) U := by
  obtain ⟨g0, g1, g2, g3, g4⟩ := id h
  unfold f_X8_know
  refine ux_lpi1 (b := b_X8_know_2 n) nt (fun m U => U.2 = S.2 ∧ (∀ i k, i ≠ 77 → i ≠ 78 → U.1 i k = S.1 i k) ∧ ∀ k, k < m → U.1 77 k = bi ((kv0 S).1 k) ∧ U.1 78 k = (kv0 S).2 k) (fun o => ∃ U, o = some U ∧ hM S nt (fx (S.1 49) nt (nt + 1) (kv0 S)) U) ?_ ?_ n 0 S (by omega) (by omega) ⟨rfl, fun _ _ _ _ => rfl, fun k hk => absurd hk (by omega)⟩
  · intro m U hm hU k hk
    have r5 : U.1 8 31 = nI nt := by rw [hU.2.1 8 31 (by omega) (by omega)]; exact g2
    have hv : vp_nar .boolean (S.1 50 m) = bi ((kv0 S).1 m) := by
      rcases (g4 m (by omega)).1 with q | q <;> (unfold kv0; simp only [q]; decide)
    unfold b_X8_know_2
    rw [r5, if_neg (nI_ge hm (by omega)), ux_ibn (by omega : m < 12) (by omega), gdt, gdt, gdt, gdt, nI_clamp (by omega), nI_1, hU.2.1 75 m (by omega) (by omega), (g3 m hm).2.2, hv, rd_ne (by decide), hU.2.1 76 m (by omega) (by omega), (g4 m (by omega)).2.1]
    refine hk _ ⟨hU.1, fun i q h1 h2 => ?_, fun q hq => ?_⟩
    · rw [rd_ne h2, rd_ne h1]; exact hU.2.1 i q h1 h2
    · rw [rd_ne (by decide), rd_if, rd_if, rd_ne (by decide)]
      by_cases e : q = m
      · subst e; rw [if_pos rfl, if_pos rfl]; exact ⟨rfl, rfl⟩
      · rw [if_neg e, if_neg e]; exact hU.2.2 q (by omega)
  · intro U hU k
    have r5 : U.1 8 31 = nI nt := by rw [hU.2.1 8 31 (by omega) (by omega)]; exact g2
    unfold b_X8_know_2
    rw [r5, if_pos (nI_le (Nat.le_refl _) (by omega))]
    have hU2 : hM S nt (kv0 S) U := ⟨hU.1, fun i k h1 h2 _ => hU.2.1 i k h1 h2, hU.2.2⟩
    generalize kv0 S = s0 at hU2 ⊢
    have key : ∀ d t s T, nt - ck nt s ≤ d → d + 1 < t → hM S nt s T → ∃ Z, ux_lp1 (b_X8_know_42 n) t 1 T = some Z ∧ hM S nt (fx (S.1 49) nt (nt + 1) s) Z := by
      intro d
      induction d with
      | zero =>
        intro t s T h1 h2 hT
        obtain ⟨t2, rfl⟩ : ∃ t2, t = t2 + 1 + 1 := ⟨t - 2, by omega⟩
        show ∃ Z, b_X8_know_42 n (ux_lp1 (b_X8_know_42 n) (t2 + 1)) 1 T = some Z ∧ _
        unfold b_X8_know_42
        rw [if_neg (by decide)]
        have hck : ck nt s ≤ nt := fb_ct_le _ _
        have hrk := rd_ck (ab := S.1 49) (s := s) nt (Nat.le_refl _)
        have hck2 : ck nt (rd (S.1 49) nt s nt).1 ≤ nt := fb_ct_le _ _
        refine t_kround hn h hT _ (fun o => ∃ Z, o = some Z ∧ hM S nt (fx (S.1 49) nt (nt + 1) s) Z) (fun V hV => ?_)
        cases hb : (rd (S.1 49) nt s nt).2 with
        | true => have := hrk.2 hb; omega
        | false =>
          refine ⟨V, ?_, ?_⟩
          · show b_X8_know_42 n (ux_lp1 _ t2) (bi false) V = _
            unfold b_X8_know_42
            rw [if_pos (by rfl)]
          · unfold fx
            rw [hb, if_neg (by decide)]
            exact hV
      | succ d ih =>
        intro t s T h1 h2 hT
        obtain ⟨t2, rfl⟩ : ∃ t2, t = t2 + 1 + 1 := ⟨t - 2, by omega⟩
        show ∃ Z, b_X8_know_42 n (ux_lp1 (b_X8_know_42 n) (t2 + 1)) 1 T = some Z ∧ _
        have hck : ck nt s ≤ nt := fb_ct_le _ _
        have hrk := rd_ck (ab := S.1 49) (s := s) nt (Nat.le_refl _)
        have ih2 := ih (t2 + 1)
        generalize hL : ux_lp1 (b_X8_know_42 n) (t2 + 1) = L at ih2 ⊢
        unfold b_X8_know_42
        rw [if_neg (by decide)]
        refine t_kround hn h hT _ (fun o => ∃ Z, o = some Z ∧ hM S nt (fx (S.1 49) nt (nt + 1) s) Z) (fun V hV => ?_)
        cases hb : (rd (S.1 49) nt s nt).2 with
        | true =>
          have := hrk.2 hb
          obtain ⟨Z, z1, z2⟩ := ih2 _ V (by omega) (by omega) hV
          refine ⟨Z, z1, ?_⟩
          have e : fx (S.1 49) nt (nt + 1) s = fx (S.1 49) nt nt (rd (S.1 49) nt s nt).1 := by
            conv => lhs; unfold fx
            rw [hb, if_pos rfl]
          rw [e, fx_stab nt (nt + 1) _ (by omega) (by omega)]
          exact z2
        | false =>
          refine ⟨V, ?_, ?_⟩
          · rw [← hL]
            show b_X8_know_42 n (ux_lp1 _ t2) (bi false) V = _
            unfold b_X8_know_42
            rw [if_pos (by rfl)]
          · unfold fx
            rw [hb, if_neg (by decide)]
            exact hV
    exact key nt n s0 U (by omega) (by omega) hU2
theorem hC_sm {S T : ux_S} {nt : Nat} {s : KV} (h : hC S nt s T) : sm S T := ⟨fun i k q => h.2.1 i k (by unfold PAll at q; omega) (by unfold PAll at q; omega), h.1⟩
theorem hM_sm {S T : ux_S} {nt : Nat} {s : KV} (h : hM S nt s T) : sm S T := ⟨fun i k q => h.2.1 i k (by unfold PAll at q; omega) (by unfold PAll at q; omega) (by unfold PAll at q; omega), h.1⟩
theorem smMet {S Z : ux_S} (h : sm S Z) : ag PMet S Z := fun i k q => h.1 i k (by unfold PMet at q; unfold PAll; omega)
/-- both sides know the same -/
theorem both {n : Nat} (hn : 20 ≤ n) {S : ux_S} {nt : Nat} (h : RMet S nt) : ∃ (s : KV) (A B : ux_S), f_X3_infer n S = some A ∧ f_X8_know n A = some B ∧ hC S nt s A ∧ hM A nt s B ∧ RMet A nt ∧ A.1 49 = S.1 49 := by
  obtain ⟨A, a1, a2⟩ := t_infer hn h
  have hA := h.cong (smMet (hC_sm a2))
  obtain ⟨B, b1, b2⟩ := t_know (S0 := S) hn hA
  have e49 : A.1 49 = S.1 49 := funext fun i => a2.2.1 49 i (by omega) (by omega)
  have ekv : kv0 A = kv0 S := by
    unfold kv0
    rw [show A.1 51 = S.1 51 from funext fun i => a2.2.1 51 i (by omega) (by omega), show A.1 50 = S.1 50 from funext fun i => a2.2.1 50 i (by omega) (by omega)]
  rw [e49, ekv] at b2
  exact ⟨_, A, B, a1, b1, a2, b2, hA, e49⟩
theorem pr_known (n : Nat) (hn : 20 ≤ n) (p0 : Int32) : alike (fun S => f_X7_known n S p0) (fun S => f_X8_known n S p0) := by
  intro S hR
  obtain ⟨nr, nm, nf, nc, nt, h1, h2, h3, h4, h5, h6, h7⟩ := id hR
  have g0 := h7.1
  rcases hs_cases p0 (n := nt) (by omega) with e | ⟨e, m, hm, rfl⟩
  · obtain ⟨B, b1, b2⟩ := t_know (S0 := S) hn h7
    have hB := h7.cong (smMet (hM_sm b2))
    refine ⟨1000000000, S, B, ?_, ?_, hR.sm (hM_sm b2)⟩
    · simp only [f_X7_known, t_has3 h7.2.1, ux_bi_s, e, i00, if_true]
    · simp only [f_X8_known, b1, ux_bv_s, t_isMeter (by omega) hB.2.2.1, ux_bi_s, e, i00, if_true]
  · obtain ⟨s, A, B, a1, b1, a2, b2, hA, -⟩ := both hn h7
    have hB := hA.cong (smMet (hM_sm b2))
    have hc := nI_clamp (n := m) (by omega)
    have hb : ux_ib (nI m) 12 = true := ux_ibn (by omega) (by omega)
    refine ⟨if s.1 m then s.2 m else 1000000000, A, B, ?_, ?_, (hR.sm (hC_sm a2)).sm (hM_sm b2)⟩
    · simp only [f_X7_known, t_has3 h7.2.1, ux_bi_s, e, i10, if_false, a1, ux_bv_s, hb, gdt, hc, (a2.2.2 m hm).1, (a2.2.2 m hm).2]
      cases s.1 m <;> rfl
    · simp only [f_X8_known, b1, ux_bv_s, t_isMeter (by omega) hB.2.2.1, ux_bi_s, e, i10, if_false, hb, gdt, hc, (b2.2.2 m hm).1, (b2.2.2 m hm).2]
      cases s.1 m <;> rfl
def odd (ab : Nat → Int32) (nt : Nat) (s : KV) (m : Nat) : Bool := s.1 m && ((ex (cP ab (nI m) (-4)) nt && !ex (fun k => cP ab (nI m) (-4) k && !s.1 k) nt) && !decide (sm1 (cP ab (nI m) (-4)) s.2 nt = s.2 m))
theorem t_odds {n : Nat} (hn : 20 ≤ n) {S T : ux_S} {nt m : Nat} {s : KV} (h : RMet S nt) (hT : hC S nt s T) (hm : m < nt) : f_X3_isAtOdds n T (nI m) = some (bi (odd (S.1 49) nt s m), T) := by
  have g0 := h.1
  unfold f_X3_isAtOdds odd
  rw [ux_ibn (by omega : m < 12) (by omega)]
  simp only [gdt]
  rw [nI_clamp (by omega), (hT.2.2 m hm).1, t_hasUnder hn h hT hm, ux_bi_s, t_allK hn h hT hm, ux_bi_s, t_sumU hn h hT hm, ux_bi_s, (hT.2.2 m hm).2]
  cases s.1 m
  · rfl
  · cases ex (cP (S.1 49) (nI m) (-4)) nt
    · rfl
    · cases ex (fun k => cP (S.1 49) (nI m) (-4) k && !s.1 k) nt
      · by_cases q : sm1 (cP (S.1 49) (nI m) (-4)) s.2 nt = s.2 m
        · simp only [bi, q, if_true, decide_true]; rfl
        · simp only [bi, q, if_false, decide_false]; rfl
      · rfl
theorem pr_quarrel (n : Nat) (hn : 20 ≤ n) : alike (fun S => f_X7_quarrel n S) (fun S => f_X8_quarrel n S) := by
  intro S hR
  obtain ⟨nr, nm, nf, nc, nt, h1, h2, h3, h4, h5, h6, h7⟩ := id hR
  have g0 := h7.1
  obtain ⟨s, A, B, a1, b1, a2, b2, hA, e49⟩ := both hn h7
  have cls : ∀ t m, m ≤ nt → nt < m + t → ux_lp1 (b_X7_quarrel_9 n) t (nI m) A = some (fst4 (odd (S.1 49) nt s) m (nt - m), A) := by
    intro t
    induction t with
    | zero => intro m h1 h2; omega
    | succ t ih =>
      intro m h1 h2
      show b_X7_quarrel_9 n (ux_lp1 (b_X7_quarrel_9 n) t) (nI m) A = _
      generalize ux_lp1 (b_X7_quarrel_9 n) t = K at ih ⊢
      unfold b_X7_quarrel_9
      rw [hA.2.1]
      by_cases hm : m < nt
      · rw [if_neg (nI_ge hm (by omega)), t_odds hn h7 a2 hm, ux_bi_s, show nt - m = (nt - (m + 1)) + 1 by omega, nI_1]
        unfold fst4
        cases odd (S.1 49) nt s m
        · rw [if_pos (by rfl), if_neg (by decide)]; exact ih (m + 1) (by omega) (by omega)
        · rw [if_neg (by decide), if_pos rfl]
      · have : m = nt := by omega
        subst this
        rw [if_pos (nI_le (Nat.le_refl _) (by omega)), Nat.sub_self]; rfl
  have mdl : ∀ t m T, m ≤ nt → nt < m + t → hM A nt s T → ∃ Z, ux_lp1 (b_X8_quarrel_6 n) t (nI m) T = some (fst4 (odd (S.1 49) nt s) m (nt - m), Z) ∧ hM A nt s Z := by
    intro t
    induction t with
    | zero => intro m T h1 h2; omega
    | succ t ih =>
      intro m T h1 h2 hT
      have r5 : T.1 8 31 = nI nt := by rw [hT.2.1 8 31 (by omega) (by omega) (by omega)]; exact hA.2.2.1
      show ∃ Z, b_X8_quarrel_6 n (ux_lp1 (b_X8_quarrel_6 n) t) (nI m) T = _ ∧ _
      generalize ux_lp1 (b_X8_quarrel_6 n) t = K at ih ⊢
      unfold b_X8_quarrel_6
      rw [r5]
      by_cases hm : m < nt
      · obtain ⟨V, v1, v2, v3⟩ := t_are (L := 1) hn hA hT (nI m) (-4) (by omega)
        have hexc : decide (1 ≤ fb_ct (cP (S.1 49) (nI m) (-4)) nt) = ex (cP (S.1 49) (nI m) (-4)) nt := rfl
        rw [e49, hexc] at v1
        rw [e49] at v3
        rw [if_neg (nI_ge hm (by omega)), ux_ibn (by omega : m < 12) (by omega)]
        simp only [gdt]
        rw [nI_clamp (by omega), (hT.2.2 m hm).1, show (1 : Int32) = nI 1 from rfl, v1, ux_bi_s, show nI m + nI 1 = nI (m + 1) from nI_1 m, show nt - m = (nt - (m + 1)) + 1 by omega, v3, (v2.2.2 m hm).2]
        unfold fst4 odd
        cases s.1 m
        · rw [if_pos (by rfl), if_neg (by simp)]; exact ih (m + 1) T (by omega) (by omega) hT
        · rw [if_neg (by decide)]
          cases hx : ex (fun k => cP (S.1 49) (nI m) (-4) k && !s.1 k) nt
          · rw [sm1_all hx]
            cases ex (cP (S.1 49) (nI m) (-4)) nt
            · rw [if_pos (by rfl), if_neg (by simp)]; exact ih (m + 1) V (by omega) (by omega) v2
            · rw [if_neg (by decide)]
              by_cases q : sm1 (cP (S.1 49) (nI m) (-4)) s.2 nt = s.2 m
              · rw [if_pos q, if_neg (by simp [q])]; exact ih (m + 1) V (by omega) (by omega) v2
              · rw [if_neg q, if_pos (by simp [q])]; exact ⟨V, rfl, v2⟩
          · rw [if_pos (by rfl), if_neg (by simp)]; exact ih (m + 1) V (by omega) (by omega) v2
      · have : m = nt := by omega
        subst this
        rw [if_pos (nI_le (Nat.le_refl _) (by omega)), Nat.sub_self]
        exact ⟨T, rfl, hT⟩
  obtain ⟨Z, z1, z2⟩ := mdl n 0 B (by omega) (by omega) b2
  refine ⟨fst4 (odd (S.1 49) nt s) 0 nt, A, Z, ?_, ?_, (hR.sm (hC_sm a2)).sm (hM_sm z2)⟩
  · simp only [f_X7_quarrel, a1, ux_bv_s]
    exact cls n 0 (by omega) (by omega)
  · simp only [f_X8_quarrel, b1, ux_bv_s]
    exact z1
theorem pr_count (n : Nat) (hn : 20 ≤ n) (p0 : Int32) : alike (fun S => f_X7_count n S p0) (fun S => f_X8_count n S p0) := by
  intro S hR
  obtain ⟨nr, nm, nf, nc, nt, h1, h2, h3, h4, h5, h6, h7⟩ := id hR
  by_cases q0 : p0 = 0
  · exact ⟨nI nr, S, S, by simp only [f_X7_count, q0, if_true, h1.2.1], by simp only [f_X8_count, q0, if_true, h1.2.2.1], hR⟩
  · by_cases q1 : p0 = 1
    · exact ⟨nI nf, S, S, by simp only [f_X7_count, q0, q1, if_false, if_true, h5.2.1, i10], by simp only [f_X8_count, q0, q1, if_false, if_true, h5.2.2.1, i10], hR⟩
    · by_cases q2 : p0 = 2
      · exact ⟨nI nm, S, S, by simp only [f_X7_count, q0, q1, q2, if_false, if_true, h3.2.1]; rfl, by simp only [f_X8_count, q0, q1, q2, if_false, if_true, h3.2.2.1]; rfl, hR⟩
      · by_cases q3 : p0 = 3
        · exact ⟨nI nc, S, S, by subst q3; simp only [f_X7_count, q0, q1, q2, if_false, if_true, h6.2.1], by subst q3; simp only [f_X8_count, q0, q1, q2, if_false, if_true, h6.2.2.1], hR⟩
        · by_cases q4 : p0 = 4
          · exact ⟨nI nt, S, S, by subst q4; simp only [f_X7_count, q0, q1, q2, q3, if_false, if_true, h7.2.1], by subst q4; simp only [f_X8_count, q0, q1, q2, q3, if_false, if_true, h7.2.2.1], hR⟩
          · by_cases q5 : p0 = 5
            · subst q5
              have g0 := h7.1
              obtain ⟨s, A, B, a1, b1, a2, b2, hA, e49⟩ := both hn h7
              have hB := hA.cong (smMet (hM_sm b2))
              refine ⟨nI (fb_ct s.1 nt), A, B, ?_, ?_, (hR.sm (hC_sm a2)).sm (hM_sm b2)⟩
              · simp only [f_X7_count, q0, q1, q2, q3, q4, if_false, if_true, f_X3_countKnown, a1, ux_bv_s]
                have : ux_lp2 (b_X3_countKnown_8 n) n 0 0 A = some (nI (fb_ct s.1 nt), A) := by
                  refine ux_lpi2 (b := b_X3_countKnown_8 n) nt (fun m x U => x = nI (fb_ct s.1 m) ∧ U = A) (fun o => o = some (nI (fb_ct s.1 nt), A)) ?_ ?_ n 0 0 A (by omega) (by omega) ⟨rfl, rfl⟩
                  · intro m x U hm hI k hk
                    obtain ⟨rfl, rfl⟩ := hI
                    unfold b_X3_countKnown_8
                    rw [hA.2.1, if_neg (nI_ge hm (by omega)), ux_ibn (by omega : m < 12) (by omega), gdt, nI_clamp (by omega), (a2.2.2 m hm).1, nI_1, nI_1]
                    cases hs : s.1 m
                    · rw [if_pos (by rfl)]; exact hk _ _ ⟨by rw [fb_ct_succ, hs]; rfl, rfl⟩
                    · rw [if_neg (by decide)]; exact hk _ _ ⟨by rw [fb_ct_succ, hs]; rfl, rfl⟩
                  · intro x U hI k
                    obtain ⟨rfl, rfl⟩ := hI
                    unfold b_X3_countKnown_8
                    rw [hA.2.1, if_pos (nI_le (Nat.le_refl _) (by omega))]
                rw [this, ux_bi_s]
              · simp only [f_X8_count, q0, q1, q2, q3, q4, if_false, if_true, b1, ux_bv_s]
                refine ux_lpi2 (b := b_X8_count_85 n 5) nt (fun m x U => x = nI (fb_ct s.1 m) ∧ U = B) (fun o => o = some (nI (fb_ct s.1 nt), B)) ?_ ?_ n 0 0 B (by omega) (by omega) ⟨rfl, rfl⟩
                · intro m x U hm hI k hk
                  obtain ⟨rfl, rfl⟩ := hI
                  unfold b_X8_count_85
                  rw [hB.2.2.1, if_neg (nI_ge hm (by omega)), ux_ibn (by omega : m < 12) (by omega), gdt, nI_clamp (by omega), (b2.2.2 m hm).1, nI_1, nI_1, Int32.add_zero]
                  cases hs : s.1 m
                  · rw [if_pos (by rfl)]; exact hk _ _ ⟨by rw [fb_ct_succ, hs]; rfl, rfl⟩
                  · rw [if_neg (by decide)]; exact hk _ _ ⟨by rw [fb_ct_succ, hs]; rfl, rfl⟩
                · intro x U hI k
                  obtain ⟨rfl, rfl⟩ := hI
                  unfold b_X8_count_85
                  rw [hB.2.2.1, if_pos (nI_le (Nat.le_refl _) (by omega))]
            · by_cases q6 : p0 = 6
              · subst q6
                have hb : ux_ib 0 4 = true := ux_ibn (k := 0) (by omega) (by omega)
                have hc : (0 : Int32).toNatClampNeg = 0 := nI_clamp (n := 0) (by omega)
                have hno : f_X6_isNothing S 0 = some (if S.1 41 0 = -1 then 1 else 0, S) := t_noth (k := 0) (by omega)
                rcases (h4 0 (by omega)).1 with ⟨s1, s2⟩ | ⟨sz, z0, z1, z2, z3, z4⟩
                · refine ⟨-4, S, S, ?_, ?_, hR⟩
                  · simp only [f_X7_count, q0, q1, q2, q3, q4, q5, if_false, if_true, hno, ux_bi_s, s1, i10]
                  · simp only [f_X8_count, q0, q1, q2, q3, q4, q5, if_false, if_true, hb, gdt, hc, s2]
                · have hlane : ¬ S.1 40 0 = -4 := by
                    intro q
                    have := z4.1
                    rw [q] at this
                    exact absurd this (by decide)
                  refine ⟨nI sz, S, S, ?_, ?_, hR⟩
                  · simp only [f_X7_count, q0, q1, q2, q3, q4, q5, if_false, if_true, hno, ux_bi_s, z1, nm1 (by omega : sz < 2 ^ 31), i00, hb, gdt, hc]
                  · simp only [f_X8_count, q0, q1, q2, q3, q4, q5, if_false, if_true, hb, gdt, hc, z3, hlane, z2]
              · by_cases q7 : p0 = 7
                · exact ⟨S.1 1 6, S, S, by subst q7; simp only [f_X7_count, q0, q1, q2, q3, q4, q5, q6, if_false, if_true], by subst q7; simp only [f_X8_count, q0, q1, q2, q3, q4, q5, q6, if_false, if_true, h1.2.2.2.2.2.1.1], hR⟩
                · by_cases q8 : p0 = 8
                  · exact ⟨S.1 1 7, S, S, by subst q8; simp only [f_X7_count, q0, q1, q2, q3, q4, q5, q6, q7, if_false, if_true], by subst q8; simp only [f_X8_count, q0, q1, q2, q3, q4, q5, q6, q7, if_false, if_true, h1.2.2.2.2.2.2.1], hR⟩
                  · exact ⟨-1, S, S, by simp only [f_X7_count, q0, q1, q2, q3, q4, q5, q6, q7, q8, if_false], by simp only [f_X8_count, q0, q1, q2, q3, q4, q5, q6, q7, q8, if_false], hR⟩
