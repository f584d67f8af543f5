/-! feeds: the flow, and the questions -/
/-- what is needed of the rows of the feeds -/
def fo (S : ux_S) (nf nr : Nat) : Prop :=
  (nf ≤ 16) ∧
  (nr ≤ 8) ∧
  (S.1 5 4 = nI nf) ∧
  (S.1 1 5 = nI nr) ∧
  (abok (S.1 42) nf) ∧
  (∀ r, r < nr → plok (S.1 45 r) nf) ∧
  (∀ r, r < nr → plok (S.1 46 r) nf) ∧
  (∀ f, f < nf → S.1 70 f = S.1 43 f) ∧
  (S.1 8 0 = nI nr) ∧
  (S.1 8 22 = nI nf) ∧
  (∀ f, f < nf → S.1 69 f = S.1 42 f) ∧
  (∀ r w, r < nr → w < 2 → S.1 72 (2 * r + w) = S.1 (45 + w) r) ∧
  (∀ r, r < nr → S.1 54 r = S.1 9 r ∧ rg 0 1000 (S.1 9 r))
theorem fo.n16 {S : ux_S} {nf nr : Nat} (h : fo S nf nr) : nf ≤ 16 := h.1
theorem fo.n8 {S : ux_S} {nf nr : Nat} (h : fo S nf nr) : nr ≤ 8 := h.2.1
theorem fo.c4 {S : ux_S} {nf nr : Nat} (h : fo S nf nr) : S.1 5 4 = nI nf := h.2.2.1
theorem fo.c5 {S : ux_S} {nf nr : Nat} (h : fo S nf nr) : S.1 1 5 = nI nr := h.2.2.2.1
theorem fo.ha {S : ux_S} {nf nr : Nat} (h : fo S nf nr) : abok (S.1 42) nf := h.2.2.2.2.1
theorem fo.p0 {S : ux_S} {nf nr : Nat} (h : fo S nf nr) : ∀ r, r < nr → plok (S.1 45 r) nf := h.2.2.2.2.2.1
theorem fo.p1 {S : ux_S} {nf nr : Nat} (h : fo S nf nr) : ∀ r, r < nr → plok (S.1 46 r) nf := h.2.2.2.2.2.2.1
theorem fo.rm {S : ux_S} {nf nr : Nat} (h : fo S nf nr) : ∀ f, f < nf → S.1 70 f = S.1 43 f := h.2.2.2.2.2.2.2.1
theorem fo.m0 {S : ux_S} {nf nr : Nat} (h : fo S nf nr) : S.1 8 0 = nI nr := h.2.2.2.2.2.2.2.2.1
theorem fo.m22 {S : ux_S} {nf nr : Nat} (h : fo S nf nr) : S.1 8 22 = nI nf := h.2.2.2.2.2.2.2.2.2.1
theorem fo.m69 {S : ux_S} {nf nr : Nat} (h : fo S nf nr) : ∀ f, f < nf → S.1 69 f = S.1 42 f := h.2.2.2.2.2.2.2.2.2.2.1
theorem fo.m72 {S : ux_S} {nf nr : Nat} (h : fo S nf nr) : ∀ r w, r < nr → w < 2 → S.1 72 (2 * r + w) = S.1 (45 + w) r := h.2.2.2.2.2.2.2.2.2.2.2.1
theorem fo.m54 {S : ux_S} {nf nr : Nat} (h : fo S nf nr) : ∀ r, r < nr → S.1 54 r = S.1 9 r ∧ rg 0 1000 (S.1 9 r) := h.2.2.2.2.2.2.2.2.2.2.2.2
theorem fo_of {S : ux_S} {nf nr : Nat} (h1 : RHall S nr) (h5 : RFeed S nf nr) : fo S nf nr := by
  obtain ⟨r0, r1, r2, r3, -⟩ := h1
  obtain ⟨g0, g1, g2, g3, g4, -, g6⟩ := h5
  have hp : ∀ r w, r < nr → w < 2 → plok (S.1 (45 + w) r) nf := fun r w hr hw => (g6 r w (by omega) hw).2.elim Or.inl (fun q => Or.inr q.2)
  exact ⟨g0, r0, g1, r1, fun f hf => (g4 f hf).1.2, fun r hr => hp r 0 hr (by omega), fun r hr => hp r 1 hr (by omega), fun f hf => (g4 f hf).2.1, r2, g2, fun f hf => (g4 f hf).1.1, fun r w hr hw => (g6 r w (by omega) hw).1 hr, fun r hr => (r3 r hr).1⟩
theorem fo.e {S T : ux_S} {nf nr : Nat} (h : fo S nf nr) (e : e47 S T) : fo T nf nr := by
  obtain ⟨a1, a2, a3, a4, a5, a6, a7, a8, a9, a10, a11, a12, a13⟩ := h
  refine ⟨a1, a2, ?_, ?_, ?_, ?_, ?_, ?_, ?_, ?_, ?_, fun r w hr hw => ?_, ?_⟩
  · rw [e.2 5 (by omega)]; exact a3
  · rw [e.2 1 (by omega)]; exact a4
  · rw [e.2 42 (by omega)]; exact a5
  · rw [e.2 45 (by omega)]; exact a6
  · rw [e.2 46 (by omega)]; exact a7
  · rw [e.2 70 (by omega), e.2 43 (by omega)]; exact a8
  · rw [e.2 8 (by omega)]; exact a9
  · rw [e.2 8 (by omega)]; exact a10
  · rw [e.2 69 (by omega), e.2 42 (by omega)]; exact a11
  · rw [e.2 72 (by omega), e.2 (45 + w) (by omega)]; exact a12 r w hr hw
  · rw [e.2 54 (by omega), e.2 9 (by omega)]; exact a13
theorem am_e {S T : ux_S} (e : e47 S T) (D : Nat → Bool) {w : Nat} (hw : w < 2) (r : Nat) : am T D w r = am S D w r := by
  unfold am
  rw [e.2 (45 + w) (by omega), e.2 (45 + (1 - w)) (by omega), e.2 9 (by omega)]
theorem dr_e {S T : ux_S} (e : e47 S T) (D : Nat → Bool) (r g : Nat) : dr T D r g = dr S D r g := by
  unfold dr
  rw [am_e e D (by omega), am_e e D (by omega), e.2 45 (by omega), e.2 46 (by omega)]
theorem thr_e {S T : ux_S} (e : e47 S T) (D : Nat → Bool) (nr p : Nat) : thr T D nr p = thr S D nr p := by
  unfold thr
  rw [e.2 42 (by omega), e.2 45 (by omega), e.2 46 (by omega)]
  exact bx_cong nr (fun r _ => by rw [am_e e D (by omega), am_e e D (by omega)])
theorem thr_sm {S : ux_S} {nf nr : Nat} (h : fo S nf nr) (D : Nat → Bool) (p : Nat) : sm1 (chn (S.1 42) p) (fun g => bx_sum (fun r => dr S D r g) nr) nf = thr S D nr p := by
  rw [sm1_swap]
  unfold thr
  refine bx_cong nr (fun r hr => ?_)
  have pk : ∀ (x a : Int32), plok x nf → sm1 (chn (S.1 42) p) (fun g => if x = nI g then a else 0) nf = if upl (S.1 42) p x then a else 0 := by
    intro x a hx
    have h16 := h.n16
    rcases hx with rfl | ⟨g, hg, rfl⟩
    · rw [sm1_zero nf (fun k hk _ => by rw [if_neg (fun q => nI_nm4 (by omega) q.symm)])]
      rfl
    · have hc : tn (nI g) = g := nI_clamp (by omega)
      have hm : ¬ nI g = -4 := nI_nm4 (by omega)
      rw [sm1_pick (by omega) nf (by omega)]
      unfold upl
      rw [hc]
      simp [hg, hm]
  show sm1 (chn (S.1 42) p) (fun g => (if S.1 45 r = nI g then am S D 0 r else 0) + (if S.1 46 r = nI g then am S D 1 r else 0)) nf = _
  rw [sm1_add, pk _ _ (h.p0 r hr), pk _ _ (h.p1 r hr)]
def up2 (S : ux_S) (D : Nat → Bool) (nf nr m : Nat) (T : ux_S) : Prop := e47 S T ∧ (∀ x, m ≤ x → x < nf → T.1 47 x = thr S D nr x) ∧ ∀ x, x < m → sm1 (chn (S.1 42) x) (T.1 47) m = thr S D nr x
theorem t_flow2 {n : Nat} {S : ux_S} {nf nr : Nat} (h : fo S nf nr) (D : Nat → Bool) (p : Int32) : ∀ m t T, m ≤ nf → m < t → up2 S D nf nr m T → ∃ Z, ux_lp1 (b_X1_flow_43 n p) t (nI m - 1) T = some Z ∧ up2 S D nf nr 0 Z := by
  have h16 := h.n16
  intro m
  induction m with
  | zero =>
    intro t T h1 h2 h3
    obtain ⟨t', rfl⟩ : ∃ t', t = t' + 1 := ⟨t - 1, by omega⟩
    show ∃ Z, b_X1_flow_43 n p (ux_lp1 (b_X1_flow_43 n p) t') (nI 0 - 1) T = some Z ∧ _
    unfold b_X1_flow_43
    rw [if_pos (by decide)]
    exact ⟨T, rfl, h3⟩
  | succ m ih =>
    intro t T h1 h2 h3
    obtain ⟨t', rfl⟩ : ∃ t', t = t' + 1 := ⟨t - 1, by omega⟩
    show ∃ Z, b_X1_flow_43 n p (ux_lp1 (b_X1_flow_43 n p) t') (nI (m + 1) - 1) T = some Z ∧ _
    obtain ⟨i1, i2, i3⟩ := h3
    have hT := h.e i1
    have e42 : T.1 42 = S.1 42 := i1.2 42 (by omega)
    have tm : T.1 47 m = thr S D nr m := by
      have := i3 m (by omega)
      rw [sm1_s, sm1_zero m (fun k hk q => by rw [show chn (S.1 42) m k = false from dd_low h.ha h16 k (by omega) hk] at q; cases q), Int32.zero_add, show chn (S.1 42) m m = true from dd_self] at this
      exact this
    have nx := ih t'
    generalize ux_lp1 (b_X1_flow_43 n p) t' = K at nx ⊢
    unfold b_X1_flow_43
    rw [← nI_1, nI_1, show nI (m + 1) - 1 = nI m from nIp (n := m + 1) (by omega), if_neg (nI_pos (by omega)), ux_ibn (by omega : m < 16) (by omega)]
    simp only [gdt]
    rw [nI_clamp (by omega), e42, t_has1 hT.c4, ux_bi_s, show nI m + (-1) = nI m - 1 from (Int32.sub_eq_add_neg _ _).symm]
    rcases h.ha m (by omega) with e | ⟨g, hg, e⟩
    · rw [e, show hs (-4) nf = 0 by unfold hs; rw [if_pos (Or.inl (by decide))], if_pos rfl]
      refine nx T (by omega) (by omega) ⟨i1, fun x h4 h5 => ?_, fun x h4 => ?_⟩
      · by_cases q : x = m
        · subst q; exact tm
        · exact i2 x (by omega) h5
      · have := i3 x (by omega)
        rw [sm1_s, show chn (S.1 42) x m = false by unfold chn; rw [dd_top e]; simp; omega] at this
        simpa using this
    · rw [e, hs_nI (by omega : g < nf) (by omega), if_neg (by decide), e42, e, ux_ibn (by omega : g < 16) (by omega), nI_clamp (by omega)]
      simp only [gdt]
      refine nx _ (by omega) (by omega) ⟨i1.up, fun x h4 h5 => ?_, fun x h4 => ?_⟩
      · rw [rd_nk (by omega)]
        by_cases q : x = m
        · subst q; exact tm
        · exact i2 x (by omega) h5
      · have := i3 x (by omega)
        rw [sm1_s] at this
        rw [ux_i_row, sm1_upd m hg, ← this]
        congr 2
        unfold chn
        rw [dd_up h.ha h16 (by omega) hg e]
        simp only [show ¬ m = x by omega, decide_false, Bool.false_or]
theorem t_flow {n : Nat} (hn : 20 ≤ n) {S : ux_S} {nf nr : Nat} (h : fo S nf nr) (D : Nat → Bool) : ∃ Z, f_X1_flow n S (nI (bset D nf)) = some Z ∧ e47 S Z ∧ ∀ f, f < nf → Z.1 47 f = thr S D nr f := by
  have h16 := h.n16
  have h8 := h.n8
  obtain ⟨A, a1, a2, a3⟩ := t_fill47 hn S
  unfold f_X1_flow
  rw [a1, ux_bv_s]
  refine ux_lpi1 (b := b_X1_flow_10 n (nI (bset D nf))) nr (fun m T => e47 S T ∧ ∀ g, g < nf → T.1 47 g = bx_sum (fun r => dr S D r g) m) (fun o => ∃ Z, o = some Z ∧ e47 S Z ∧ ∀ f, f < nf → Z.1 47 f = thr S D nr f) ?_ ?_ n 0 A (by omega) (by omega) ⟨a2, fun g hg => a3 g (by omega)⟩
  · intro m T hm hI k hk
    obtain ⟨i1, i2⟩ := hI
    have hT := h.e i1
    obtain ⟨U, u1, u2, u3⟩ := t_drawFor (n := n) (D := D) h16 hT.c4 (by omega : m < 8) (hT.p0 m hm) (hT.p1 m hm)
    unfold b_X1_flow_10
    rw [hT.c5, if_neg (nI_ge hm (by omega)), ux_ibn (by omega : m < 8) (by omega), gdt, nI_clamp (by omega), u1, ux_bv_s, nI_1]
    refine hk U ⟨i1.trans u2, fun g hg => ?_⟩
    rw [u3 g hg, i2 g hg, dr_e i1]
    rfl
  · intro T hI k
    obtain ⟨i1, i2⟩ := hI
    have hT := h.e i1
    unfold b_X1_flow_10
    rw [hT.c5, if_pos (nI_le (Nat.le_refl _) (by omega)), hT.c4]
    obtain ⟨Z, z1, z2, z3, z4⟩ := t_flow2 (n := n) h D (nI (bset D nf)) nf n T (Nat.le_refl _) (by omega) ⟨i1, fun x _ _ => by omega, fun x hx => by rw [← thr_sm h D x]; exact sm1_cong nf (fun k hk => ⟨rfl, i2 k hk⟩)⟩
    exact ⟨Z, z1, z2, fun f hf => z3 f (by omega) hf⟩
def ovr (S : ux_S) (D : Nat → Bool) (nr f : Nat) : Bool := decide (¬ thr S D nr f ≤ S.1 43 f)
def drk (S : ux_S) (D : Nat → Bool) (r : Nat) : Bool := !lv D (S.1 45 r) && !lv D (S.1 46 r)
theorem t_over {n : Nat} (hn : 20 ≤ n) {S : ux_S} {nf nr : Nat} (h : fo S nf nr) (D : Nat → Bool) : ∃ Z, f_X1_over n S (nI (bset D nf)) = some (nI (bset (ovr S D nr) nf), Z) ∧ e47 S Z := by
  have h16 := h.n16
  obtain ⟨A, a1, a2, a3⟩ := t_flow hn h D
  have hA := h.e a2
  unfold f_X1_over
  rw [a1, ux_bv_s]
  refine ⟨A, ?_, a2⟩
  refine ux_lpi2 (b := b_X1_over_11 n (nI (bset D nf))) nf (fun m x T => x = nI (bset (ovr S D nr) m) ∧ T = A) (fun o => o = some (nI (bset (ovr S D nr) nf), A)) ?_ ?_ n 0 0 A (by omega) (by omega) ⟨rfl, rfl⟩
  · intro m x T hm hI k hk
    obtain ⟨rfl, rfl⟩ := hI
    unfold b_X1_over_11
    rw [hA.c4, if_neg (nI_ge hm (by omega)), ux_ibn (by omega : m < 16) (by omega), gdt, gdt, nI_clamp (by omega), a3 m hm, a2.2 43 (by omega), nI_1]
    by_cases q : thr S D nr m ≤ S.1 43 m
    · rw [if_pos q]
      refine hk _ _ ⟨?_, rfl⟩
      conv => rhs; unfold bset
      rw [if_neg (by simp [ovr, q])]
    · rw [if_neg q, bit_set (by omega)]
      refine hk _ _ ⟨?_, rfl⟩
      conv => rhs; unfold bset
      rw [if_pos (by unfold ovr; exact decide_eq_true q)]
  · intro x T hI k
    obtain ⟨rfl, rfl⟩ := hI
    unfold b_X1_over_11
    rw [hA.c4, if_pos (nI_le (Nat.le_refl _) (by omega))]
theorem t_dark {n : Nat} (hn : 20 ≤ n) {S : ux_S} {nf nr : Nat} (h : fo S nf nr) (D : Nat → Bool) : f_X1_dark n S (nI (bset D nf)) = some (nI (bset (drk S D) nr), S) := by
  have h16 := h.n16
  have h8 := h.n8
  unfold f_X1_dark
  refine ux_lpi2 (b := b_X1_dark_5 n (nI (bset D nf))) nr (fun m x T => x = nI (bset (drk S D) m) ∧ T = S) (fun o => o = some (nI (bset (drk S D) nr), S)) ?_ ?_ n 0 0 S (by omega) (by omega) ⟨rfl, rfl⟩
  · intro m x T hm hI k hk
    obtain ⟨rfl, rfl⟩ := hI
    unfold b_X1_dark_5
    simp only [show ux_ib 0 2 = true by decide, show ux_ib 1 2 = true by decide, ux_ibn (by omega : m < 8) (by omega), gdt]
    rw [show (44 + 1 + (0 : Int32).toNatClampNeg) = 45 by decide, show (44 + 1 + (1 : Int32).toNatClampNeg) = 46 by decide, h.c5, if_neg (nI_ge hm (by omega)), nI_clamp (by omega), t_gives h16 h.c4 (h.p0 m hm), ux_bi_s, t_gives h16 h.c4 (h.p1 m hm), ux_bi_s, bit_set (by omega), nI_1]
    simp only [bi0]
    have no : drk T D m = false → k (nI (bset (drk T D) m)) (nI (m + 1)) T = some (nI (bset (drk T D) nr), T) := by
      intro q
      refine hk _ _ ⟨?_, rfl⟩
      conv => rhs; unfold bset
      rw [if_neg (by rw [q]; decide)]
    cases l0 : lv D (T.1 45 m)
    · rw [if_pos rfl]
      cases l1 : lv D (T.1 46 m)
      · rw [if_pos rfl]
        refine hk _ _ ⟨?_, rfl⟩
        conv => rhs; unfold bset
        rw [if_pos (by unfold drk; rw [l0, l1]; rfl)]
      · rw [if_neg (by decide)]; exact no (by unfold drk; rw [l0, l1]; rfl)
    · rw [if_neg (by decide)]; exact no (by unfold drk; rw [l0]; rfl)
  · intro x T hI k
    obtain ⟨rfl, rfl⟩ := hI
    unfold b_X1_dark_5
    rw [h.c5, if_pos (nI_le (Nat.le_refl _) (by omega))]
