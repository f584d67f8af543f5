/-! the reference: know -/
def hM (S : ux_S) (nt : Nat) (s : KV) (T : ux_S) : Prop := T.2 = S.2 ∧ (∀ i k, i ≠ 77 → i ≠ 78 → ¬ (i = 8 ∧ k = 37) → T.1 i k = S.1 i k) ∧ ∀ m, m < nt → T.1 77 m = bi (s.1 m) ∧ T.1 78 m = s.2 m
section ME
variable {n : Nat} {S T : ux_S} {nt : Nat} {s : KV}
theorem hM.sum (hT : hM S nt s T) (v : Int32) : hM S nt s (ux_i T 8 37 v) := ⟨hT.1, fun i k h1 h2 h3 => by rw [ux_i_off (by omega)]; exact hT.2.1 i k h1 h2 h3, fun m hm => by rw [rd_ne (by decide), rd_ne (by decide)]; exact hT.2.2 m hm⟩
theorem hM_ap (hT : hM S nt s T) {m : Nat} (v : Int32) : hM S nt (ap s m v) (ux_i (ux_i T 77 m 1) 78 m v) := by
  refine ⟨hT.1, fun i k h1 h2 h3 => ?_, fun k hk => ?_⟩
  · rw [rd_ne h2, rd_ne h1]; exact hT.2.1 i k h1 h2 h3
  · rw [rd_ne (by decide), rd_if, rd_if, rd_ne (by decide)]
    unfold ap
    by_cases q : k = m
    · subst q; simp [bi, upd]
    · simp only [q, if_false, upd]; exact hT.2.2 k hk
def R_are (S : ux_S) (nt : Nat) (s : KV) (r : Int32) (v : Int32) (o : Option (Int32 × ux_S)) : Prop := ∃ U, o = some (r, U) ∧ hM S nt s U ∧ U.1 8 37 = v
theorem t_are (hn : 20 ≤ n) (h : RMet S nt) (hT : hM S nt s T) (P X : Int32) {L : Nat} (hL : L ≤ 1) : R_are S nt s (bi (!ex (fun k => cP (S.1 49) P X k && !s.1 k) nt && decide (L ≤ fb_ct (cP (S.1 49) P X) nt))) (sm1 (fun k => cP (S.1 49) P X k && s.1 k) s.2 nt) (f_X8_areKnown n T P X (nI L)) := by
  obtain ⟨g0, g1, g2, g3, g4⟩ := id h
  unfold f_X8_areKnown
  refine ux_lpi3 (b := b_X8_areKnown_14 n P X (nI L)) nt (fun m x y U => x = bi (!ex (fun k => cP (S.1 49) P X k && !s.1 k) m) ∧ y = nI (fb_ct (cP (S.1 49) P X) m) ∧ hM S nt s U ∧ U.1 8 37 = sm1 (fun k => cP (S.1 49) P X k && s.1 k) s.2 m) _ ?_ ?_ n 0 1 0 _ (by omega) (by omega) ⟨rfl, rfl, hT.sum 0, ux_i_same⟩
  · intro m x y U hm hI k hk
    obtain ⟨rfl, rfl, hU, hs⟩ := hI
    have r5 : U.1 8 31 = nI nt := by rw [hU.2.1 8 31 (by omega) (by omega) (by omega)]; exact g2
    have hc := nI_clamp (n := m) (by omega)
    have e49 : U.1 74 m = S.1 49 m := by rw [hU.2.1 74 m (by omega) (by omega) (by omega)]; exact (g3 m hm).1
    have nx1 : ∀ b, (cP (S.1 49) P X m && !s.1 m) = b → ex (fun k => cP (S.1 49) P X k && !s.1 k) (m + 1) = (ex (fun k => cP (S.1 49) P X k && !s.1 k) m || b) := by
      intro b hb
      unfold ex
      rw [fb_ct_succ]
      show decide (0 < _ + if (cP (S.1 49) P X m && !s.1 m) = true then 1 else 0) = _
      rw [hb]
      cases b <;> simp
    have nx2 : fb_ct (cP (S.1 49) P X) (m + 1) = fb_ct (cP (S.1 49) P X) m + (if cP (S.1 49) P X m then 1 else 0) := fb_ct_succ _ _
    have nx3 : sm1 (fun k => cP (S.1 49) P X k && s.1 k) s.2 (m + 1) = sm1 (fun k => cP (S.1 49) P X k && s.1 k) s.2 m + (if (cP (S.1 49) P X m && s.1 m) = true then s.2 m else 0) := rfl
    unfold b_X8_areKnown_14 b_X8_areKnown_62 b_X8_areKnown_63
    rw [r5, if_neg (nI_ge hm (by omega)), ux_ibn (by omega : m < 12) (by omega)]
    simp only [gdt]
    rw [hc, e49, (hU.2.2 m hm).1, (hU.2.2 m hm).2, nI_1, nI_1, hs]
    have skip : cP (S.1 49) P X m = false → R_are S nt s (bi (!ex (fun k => cP (S.1 49) P X k && !s.1 k) nt && decide (L ≤ fb_ct (cP (S.1 49) P X) nt))) (sm1 (fun k => cP (S.1 49) P X k && s.1 k) s.2 nt) (k (bi (!ex (fun k => cP (S.1 49) P X k && !s.1 k) m)) (nI (fb_ct (cP (S.1 49) P X) m)) (nI (m + 1)) U) := by
      intro q
      refine hk _ _ _ ⟨?_, ?_, hU, ?_⟩
      · rw [nx1 false (by rw [q]; rfl), Bool.or_false]
      · rw [nx2, q]; rfl
      · rw [nx3, q, hs]; exact (Int32.add_zero _).symm
    by_cases q : S.1 49 m = P
    · rw [if_pos q]
      by_cases q2 : nI m = X
      · rw [if_pos q2]; exact skip (by unfold cP; simp [q2])
      · rw [if_neg q2]
        have hcp : cP (S.1 49) P X m = true := by unfold cP; simp [q, q2]
        have nx2' : fb_ct (cP (S.1 49) P X) (m + 1) = fb_ct (cP (S.1 49) P X) m + 1 := by rw [nx2, hcp]; rfl
        cases hk1 : s.1 m with
        | false =>
          have e3 : sm1 (fun k => cP (S.1 49) P X k && s.1 k) s.2 (m + 1) = sm1 (fun k => cP (S.1 49) P X k && s.1 k) s.2 m + 0 := by rw [nx3, hcp, hk1]; rfl
          have e1 : ex (fun k => cP (S.1 49) P X k && !s.1 k) (m + 1) = true := by rw [nx1 true (by rw [hcp, hk1]; rfl), Bool.or_true]
          have hgo : R_are S nt s (bi (!ex (fun k => cP (S.1 49) P X k && !s.1 k) nt && decide (L ≤ fb_ct (cP (S.1 49) P X) nt))) (sm1 (fun k => cP (S.1 49) P X k && s.1 k) s.2 nt) (k 0 (nI (fb_ct (cP (S.1 49) P X) m + 1)) (nI (m + 1)) (ux_i U 8 37 (sm1 (fun k => cP (S.1 49) P X k && s.1 k) s.2 m + 0))) := by
            refine hk _ _ _ ⟨?_, ?_, hU.sum _, ?_⟩
            · rw [e1]; rfl
            · rw [nx2']
            · rw [ux_i_same, e3]
          simp only [show (bi false = 0) = True by decide, if_true]
          by_cases q9 : bi (!ex (fun k => cP (S.1 49) P X k && !s.1 k) m) = 0
          · rw [if_pos q9]; exact hgo
          · rw [if_neg q9]; exact hgo
        | true =>
          have e3 : sm1 (fun k => cP (S.1 49) P X k && s.1 k) s.2 (m + 1) = sm1 (fun k => cP (S.1 49) P X k && s.1 k) s.2 m + s.2 m := by rw [nx3, hcp, hk1]; rfl
          have e1 : ex (fun k => cP (S.1 49) P X k && !s.1 k) (m + 1) = ex (fun k => cP (S.1 49) P X k && !s.1 k) m := by rw [nx1 false (by rw [hcp, hk1]; rfl), Bool.or_false]
          have hgo : R_are S nt s (bi (!ex (fun k => cP (S.1 49) P X k && !s.1 k) nt && decide (L ≤ fb_ct (cP (S.1 49) P X) nt))) (sm1 (fun k => cP (S.1 49) P X k && s.1 k) s.2 nt) (k (bi (!ex (fun k => cP (S.1 49) P X k && !s.1 k) m)) (nI (fb_ct (cP (S.1 49) P X) m + 1)) (nI (m + 1)) (ux_i U 8 37 (sm1 (fun k => cP (S.1 49) P X k && s.1 k) s.2 m + s.2 m))) := by
            refine hk _ _ _ ⟨?_, ?_, hU.sum _, ?_⟩
            · rw [e1]
            · rw [nx2']
            · rw [ux_i_same, e3]
          simp only [show (bi true = 0) = False by decide, if_false]
          by_cases q9 : bi (!ex (fun k => cP (S.1 49) P X k && !s.1 k) m) = 0
          · rw [if_pos q9]; rw [q9] at hgo; exact hgo
          · rw [if_neg q9]
            have : bi (!ex (fun k => cP (S.1 49) P X k && !s.1 k) m) = 1 := by
              revert q9
              cases ex (fun k => cP (S.1 49) P X k && !s.1 k) m <;> intro q9
              · rfl
              · exact absurd rfl q9
            rw [this] at hgo
            exact hgo
    · rw [if_neg q]; exact skip (by unfold cP; simp [q])
  · intro x y U hI k
    obtain ⟨rfl, rfl, hU, hs⟩ := hI
    have r5 : U.1 8 31 = nI nt := by rw [hU.2.1 8 31 (by omega) (by omega) (by omega)]; exact g2
    have hct := fb_ct_le (cP (S.1 49) P X) nt
    unfold b_X8_areKnown_14
    rw [r5, if_pos (nI_le (Nat.le_refl _) (by omega))]
    cases ex (fun k => cP (S.1 49) P X k && !s.1 k) nt with
    | true => rw [if_pos (by rfl)]; exact ⟨U, rfl, hU, hs⟩
    | false =>
      rw [if_neg (by decide)]
      by_cases q : fb_ct (cP (S.1 49) P X) nt < L
      · rw [if_pos (nI_lt q (by omega))]
        refine ⟨U, ?_, hU, hs⟩
        have : ¬ L ≤ fb_ct (cP (S.1 49) P X) nt := by omega
        simp [this, bi]
      · rw [if_neg (nI_nlt (by omega) (by omega))]
        refine ⟨U, ?_, hU, hs⟩
        have : L ≤ fb_ct (cP (S.1 49) P X) nt := by omega
        simp [this, bi]
theorem sm1_all {c K : Nat → Bool} {V : Nat → Int32} {m : Nat} (h : ex (fun k => c k && !K k) m = false) : sm1 (fun k => c k && K k) V m = sm1 c V m := by
  have h2 := ex_f.mp h
  unfold sm1
  refine bx_cong m (fun k hk => ?_)
  have := h2 k hk
  cases hc : c k <;> cases hK : K k <;> simp_all
theorem t_kround (hn : 20 ≤ n) (h : RMet S nt) (hT : hM S nt s T) (k42 : Int32 → ux_S → Option ux_S) (R : Option ux_S → Prop) (hk : ∀ U, hM S nt (rd (S.1 49) nt s nt).1 U → R (k42 (bi (rd (S.1 49) nt s nt).2) U)) : R (ux_lp2 (b_X8_know_50 n k42) n 0 0 T) := by
  obtain ⟨g0, g1, g2, g3, g4⟩ := id h
  refine ux_lpi2 (b := b_X8_know_50 n k42) nt (fun m x U => x = bi (rd (S.1 49) nt s m).2 ∧ hM S nt (rd (S.1 49) nt s m).1 U) R ?_ ?_ n 0 0 T (by omega) (by omega) ⟨rfl, hT⟩
  · intro m x U hm hI k hk2
    obtain ⟨rfl, hU⟩ := hI
    have r5 : U.1 8 31 = nI nt := by rw [hU.2.1 8 31 (by omega) (by omega) (by omega)]; exact g2
    have hc := nI_clamp (n := m) (by omega)
    have nxt : rd (S.1 49) nt s (m + 1) = match inf (S.1 49) nt (rd (S.1 49) nt s m).1 m with
      | none => rd (S.1 49) nt s m
      | some v => (ap (rd (S.1 49) nt s m).1 m v, true) := rfl
    have e74 : ∀ V, hM S nt (rd (S.1 49) nt s m).1 V → V.1 74 m = S.1 49 m := fun V hV => by rw [hV.2.1 74 m (by omega) (by omega) (by omega)]; exact (g3 m hm).1
    have stay : inf (S.1 49) nt (rd (S.1 49) nt s m).1 m = none → ∀ V, hM S nt (rd (S.1 49) nt s m).1 V → R (k (bi (rd (S.1 49) nt s m).2) (nI (m + 1)) V) := by
      intro e V hV
      rw [e] at nxt
      exact hk2 _ _ ⟨by rw [nxt], by rw [nxt]; exact hV⟩
    have go : ∀ v, inf (S.1 49) nt (rd (S.1 49) nt s m).1 m = some v → ∀ V, hM S nt (ap (rd (S.1 49) nt s m).1 m v) V → R (k 1 (nI (m + 1)) V) := by
      intro v e V hV
      rw [e] at nxt
      exact hk2 _ _ ⟨by rw [nxt]; rfl, by rw [nxt]; exact hV⟩
    generalize (rd (S.1 49) nt s m).1 = r at *
    -- the tail of a step
    have tail0 : inf (S.1 49) nt r m = none → r.1 m = false → ∀ V, hM S nt r V → R (b_X8_know_167 n k (bi (rd (S.1 49) nt s m).2) (nI m) V) := by
      intro e hr V hV
      have := stay e V hV
      unfold b_X8_know_167 b_X8_know_180
      rw [ux_ibn (by omega : m < 12) (by omega), gdt, hc, (hV.2.2 m hm).1, hr, nI_1]
      cases hb : (rd (S.1 49) nt s m).2 <;> rw [hb] at this
      · rw [if_pos (by rfl), if_pos (by rfl)]; exact this
      · rw [if_neg (by decide)]; exact this
    have tail1 : ∀ v, inf (S.1 49) nt r m = some v → ∀ V, hM S nt (ap r m v) V → R (b_X8_know_167 n k (bi (rd (S.1 49) nt s m).2) (nI m) V) := by
      intro v e V hV
      have := go v e V hV
      have h77 : V.1 77 m = 1 := by
        have := (hV.2.2 m hm).1
        rw [this]
        unfold ap
        simp [bi]
      unfold b_X8_know_167 b_X8_know_180
      rw [ux_ibn (by omega : m < 12) (by omega), gdt, hc, h77, nI_1]
      cases hb : (rd (S.1 49) nt s m).2
      · rw [if_pos (by rfl), if_neg (by decide)]; exact this
      · rw [if_neg (by decide)]; exact this
    unfold b_X8_know_50
    rw [r5, if_neg (nI_ge hm (by omega)), ux_ibn (by omega : m < 12) (by omega)]
    simp only [gdt]
    rw [hc, (hU.2.2 m hm).1]
    cases hk1 : r.1 m with
    | true =>
      rw [if_neg (by decide), nI_1]
      exact stay (by unfold inf; rw [if_pos hk1]) U hU
    | false =>
      have hk3 : ¬ r.1 m = true := by rw [hk1]; decide
      rw [if_pos (by rfl)]
      obtain ⟨V, v1, v2, v3⟩ := t_are (L := 1) hn h hU (nI m) (-4) (by omega)
      rw [show (1 : Int32) = nI 1 from rfl, v1, ux_bi_s]
      have hexc : decide (1 ≤ fb_ct (cP (S.1 49) (nI m) (-4)) nt) = ex (cP (S.1 49) (nI m) (-4)) nt := rfl
      rw [hexc, Bool.and_comm]
      by_cases q : (ex (cP (S.1 49) (nI m) (-4)) nt && !ex (fun k => cP (S.1 49) (nI m) (-4) k && !r.1 k) nt) = true
      · have hall : ex (fun k => cP (S.1 49) (nI m) (-4) k && !r.1 k) nt = false := by
          simp only [Bool.and_eq_true, Bool.not_eq_true'] at q; exact q.2
        rw [q, if_neg (by decide)]
        simp only [show nI 1 = (1 : Int32) from rfl, ux_nar1]
        have e37 : (ux_i V 77 m 1).1 8 37 = sm1 (cP (S.1 49) (nI m) (-4)) r.2 nt := by rw [rd_ne (by decide), v3, sm1_all hall]
        rw [e37]
        exact tail1 _ (by unfold inf; rw [if_neg hk3, if_pos q]) _ (hM_ap v2 _)
      · have qf : (ex (cP (S.1 49) (nI m) (-4)) nt && !ex (fun k => cP (S.1 49) (nI m) (-4) k && !r.1 k) nt) = false := by simpa using q
        rw [qf, if_pos (by rfl), e74 V v2]
        rcases (g3 m hm).2.1 with e | ⟨g, hg, e⟩
        · rw [e, if_pos rfl]
          exact tail0 (by unfold inf; rw [if_neg hk3, if_neg q, if_neg (by rw [e]; simp)]) hk1 V v2
        · have hne : ¬ nI g = -4 := nI_nm4 (by omega)
          have htn : tn (nI g) = g := nI_clamp (by omega)
          rw [e, if_neg hne, ux_ibn (by omega : g < 12) (by omega), gdt, nI_clamp (by omega), (v2.2.2 g (by omega)).1]
          cases hkg : r.1 g with
          | false =>
            rw [if_pos (by rfl)]
            exact tail0 (by unfold inf; rw [if_neg hk3, if_neg q, if_neg (by rw [e, htn, hkg]; simp)]) hk1 V v2
          | true =>
            rw [if_neg (by decide)]
            obtain ⟨W, w1, w2, w3⟩ := t_are (L := 0) hn h v2 (nI g) (nI m) (by omega)
            rw [show (0 : Int32) = nI 0 from rfl, w1, ux_bi_s]
            simp only [Nat.zero_le, decide_true, Bool.and_true]
            by_cases q2 : ex (fun k => cP (S.1 49) (nI g) (nI m) k && !r.1 k) nt = true
            · rw [q2, if_pos (by rfl)]
              exact tail0 (by unfold inf; rw [if_neg hk3, if_neg q, if_neg (by rw [e, q2]; simp)]) hk1 W w2
            · have q2f : ex (fun k => cP (S.1 49) (nI g) (nI m) k && !r.1 k) nt = false := by simpa using q2
              have e74' : (ux_i W 77 m 1).1 74 m = nI g := by rw [rd_ne (by decide), e74 W w2, e]
              have e37 : (ux_i W 77 m 1).1 8 37 = sm1 (cP (S.1 49) (nI g) (nI m)) r.2 nt := by rw [rd_ne (by decide), w3, sm1_all q2f]
              have e78 : (ux_i W 77 m 1).1 78 g = r.2 g := by rw [rd_ne (by decide)]; exact (w2.2.2 g (by omega)).2
              rw [q2f, if_neg (by decide), show nI 1 = (1 : Int32) from rfl, ux_nar1, e74', ux_ibn (by omega : g < 12) (by omega), gdt, nI_clamp (by omega), e37, e78]
              refine tail1 _ ?_ _ (hM_ap w2 _)
              unfold inf
              rw [if_neg hk3, if_neg q, if_pos (by rw [e, htn, hkg, q2f]; simp [hne]), e, htn]
  · intro x U hI k
    obtain ⟨rfl, hU⟩ := hI
    have r5 : U.1 8 31 = nI nt := by rw [hU.2.1 8 31 (by omega) (by omega) (by omega)]; exact g2
    unfold b_X8_know_50
    rw [r5, if_pos (nI_le (Nat.le_refl _) (by omega))]
    exact hk U hU
end ME
