/-! feeds: the reference's questions -/
theorem t_lives {n : Nat} (hn : 20 ≤ n) {S : ux_S} {nf nr : Nat} (h : fo S nf nr) {D : Nat → Bool} (hD : ∀ f, f < nf → dd (S.1 42) (Fm S) f = D f) {r w : Nat} (hr : r < nr) (hw : w < 2) : f_X8_lives n S (nI r) (nI w) = some (bi (lv D (S.1 (45 + w) r)), S) := by
  have h16 := h.n16
  have h8 := h.n8
  have q2 : (2 : Int32) * nI r = nI (2 * r) := by rw [show (2 : Int32) = nI 2 from rfl, pk_mul]
  have q3 : nI (2 * r) + nI w = nI (2 * r + w) := nI_add _ _
  have hp : plok (S.1 (45 + w) r) nf := by
    rcases (by omega : w = 0 ∨ w = 1) with rfl | rfl
    · exact h.p0 r hr
    · exact h.p1 r hr
  unfold f_X8_lives
  rw [q2, q3, ux_ibn (by omega : 2 * r + w < 16) (by omega), gdt, nI_clamp (by omega), h.m72 r w hr hw]
  unfold lv
  rcases hp with e | ⟨g, hg, e⟩
  · rw [e, if_pos rfl]; rfl
  · rw [e, if_neg (nI_nm4 (by omega)), t_isDead hn h16 h.ha h.m69 hg, ux_bi_s, hD g hg, show tn (nI g) = g from nI_clamp (by omega)]
    simp only [bi0, nI_nm4 (show g < 2 ^ 31 by omega), decide_false, Bool.not_false, Bool.true_and]
    cases D g <;> simp [bi]
theorem t_isDark {n : Nat} (hn : 20 ≤ n) {S : ux_S} {nf nr : Nat} (h : fo S nf nr) {D : Nat → Bool} (hD : ∀ f, f < nf → dd (S.1 42) (Fm S) f = D f) {r : Nat} (hr : r < nr) : f_X8_isDark n S (nI r) = some (bi (drk S D r), S) := by
  have a0 := t_lives hn h hD hr (w := 0) (by omega)
  have a1 := t_lives hn h hD hr (w := 1) (by omega)
  unfold f_X8_isDark drk
  rw [show (0 : Int32) = nI 0 from rfl, a0, ux_bi_s, show (1 : Int32) = nI 1 from rfl, a1, ux_bi_s, show nI 0 = (0 : Int32) from rfl]
  simp only [bi0]
  cases lv D (S.1 (45 + 0) r) <;> cases lv D (S.1 (45 + 1) r) <;> simp [bi] <;> rfl
theorem half {x : Int32} (h : rg 0 1000 x) : (x + 1) / 2 = x - x / 2 := by
  obtain ⟨e, h1, h2⟩ := tn_rg h (by decide)
  generalize tn x = k at *
  subst e
  rw [nI_1, show (2 : Int32) = nI 2 from rfl, pk_div (by omega) (by omega) (by omega), pk_div (by omega) (by omega) (by omega), pk_sub (by omega)]
  congr 1
  omega
theorem t_drawn {n : Nat} (hn : 20 ≤ n) {S : ux_S} {nf nr : Nat} (h : fo S nf nr) {D : Nat → Bool} (hD : ∀ f, f < nf → dd (S.1 42) (Fm S) f = D f) {r w : Nat} (hr : r < nr) (hw : w < 2) : f_X8_drawn n S (nI r) (nI w) = some (am S D w r, S) := by
  have h8 := h.n8
  have a0 := t_lives hn h hD hr hw
  have a1 := t_lives hn h hD hr (w := 1 - w) (by omega)
  have q1 : (1 : Int32) - nI w = nI (1 - w) := by rw [show (1 : Int32) = nI 1 from rfl, pk_sub (by omega)]
  unfold f_X8_drawn am
  rw [a0, ux_bi_s, q1, a1, ux_bi_s, ux_ibn (by omega : r < 8) (by omega)]
  simp only [gdt, bi0]
  rw [nI_clamp (by omega), (h.m54 r hr).1, half (h.m54 r hr).2]
  rcases (by omega : w = 0 ∨ w = 1) with rfl | rfl
  · cases lv D (S.1 (45 + 0) r) <;> cases lv D (S.1 (45 + (1 - 0)) r) <;> simp [show nI 0 = (0 : Int32) from rfl]
  · cases lv D (S.1 (45 + 1) r) <;> cases lv D (S.1 (45 + (1 - 1)) r) <;> simp [show ¬ nI 1 = (0 : Int32) by decide]
theorem t_goes {n : Nat} (hn : 20 ≤ n) {S : ux_S} {nf nr : Nat} (h : fo S nf nr) {D : Nat → Bool} (hD : ∀ f, f < nf → dd (S.1 42) (Fm S) f = D f) {p : Nat} (hp : p < nf) : f_X8_goes n S (nI p) = some (thr S D nr p, S) := by
  have h16 := h.n16
  have h8 := h.n8
  have A : ∀ K k4 x r w, r < nr → w < 2 → b_X8_goes_23 n (nI p) k4 K x (nI r) (nI w) S = K (x + (if upl (S.1 42) p (S.1 (45 + w) r) then am S D w r else 0)) (nI r) (nI (w + 1)) S := by
    intro K k4 x r w hr hw
    have q2 : (2 : Int32) * nI r = nI (2 * r) := by rw [show (2 : Int32) = nI 2 from rfl, pk_mul]
    have q3 : nI (2 * r) + nI w = nI (2 * r + w) := nI_add _ _
    have hp2 : plok (S.1 (45 + w) r) nf := by
      rcases (by omega : w = 0 ∨ w = 1) with rfl | rfl
      · exact h.p0 r hr
      · exact h.p1 r hr
    unfold b_X8_goes_23 b_X8_goes_70
    rw [if_neg (show ¬ (2 : Int32) ≤ nI w from nI_ge (b := 2) hw (by decide)), q2, q3, ux_ibn (by omega : 2 * r + w < 16) (by omega), gdt, nI_clamp (by omega), h.m72 r w hr hw, nI_1]
    unfold upl
    rcases hp2 with e | ⟨g, hg, e⟩
    · rw [e, if_pos rfl]; rfl
    · rw [e, if_neg (nI_nm4 (by omega)), t_isUnder hn h16 h.ha h.m69 hg hp, ux_bi_s, t_drawn hn h hD hr hw, show tn (nI g) = g from nI_clamp (by omega), ux_bi_s]
      simp only [bi0, nI_nm4 (show g < 2 ^ 31 by omega), decide_false, Bool.not_false, Bool.true_and]
      unfold chn
      cases dd (S.1 42) (fun x => decide (x = p)) g <;> simp
  have B : ∀ k4 x r, r < nr → ux_lp3 (b_X8_goes_23 n (nI p) k4) n x (nI r) 0 S = k4 (x + ((if upl (S.1 42) p (S.1 45 r) then am S D 0 r else 0) + (if upl (S.1 42) p (S.1 46 r) then am S D 1 r else 0))) (nI (r + 1)) S := by
    intro k4 x r hr
    have stp : ∀ t a b c, ux_lp3 (b_X8_goes_23 n (nI p) k4) (t + 1) a b c S = b_X8_goes_23 n (nI p) k4 (ux_lp3 (b_X8_goes_23 n (nI p) k4) t) a b c S := fun _ _ _ _ => rfl
    have go : ∀ t, 3 ≤ t → ux_lp3 (b_X8_goes_23 n (nI p) k4) t x (nI r) 0 S = k4 (x + ((if upl (S.1 42) p (S.1 45 r) then am S D 0 r else 0) + (if upl (S.1 42) p (S.1 46 r) then am S D 1 r else 0))) (nI (r + 1)) S := by
      intro t ht
      obtain ⟨t', rfl⟩ : ∃ t', t = t' + 1 + 1 + 1 := ⟨t - 3, by omega⟩
      rw [stp, show (0 : Int32) = nI 0 from rfl, A _ _ _ r 0 hr (by omega), stp, A _ _ _ r 1 hr (by omega), stp]
      generalize ux_lp3 (b_X8_goes_23 n (nI p) k4) t' = K
      unfold b_X8_goes_23
      rw [if_pos (by decide), nI_1, Int32.add_assoc]
      rfl
    exact go n (by omega)
  have dz : D p = true → thr S D nr p = 0 := by
    intro hd
    unfold thr
    rw [bx_cong (g := fun _ => 0) nr (fun r hr => ?_), bx_zero]
    have z : ∀ x a, plok x nf → (lv D x = false → a = 0) → (if upl (S.1 42) p x then a else (0 : Int32)) = 0 := by
      intro x a hx ha2
      rcases hx with rfl | ⟨g, hg, rfl⟩
      · rfl
      · cases q : upl (S.1 42) p (nI g)
        · rfl
        · rw [if_pos rfl]
          apply ha2
          unfold upl chn at q
          unfold lv
          rw [show tn (nI g) = g from nI_clamp (by omega)] at q ⊢
          simp only [nI_nm4 (show g < 2 ^ 31 by omega), decide_false, Bool.not_false, Bool.true_and] at q ⊢
          rw [← hD g hg, dd_under h.ha h16 (by rw [hD p hp]; exact hd) g hg q]
          rfl
    rw [z _ _ (h.p0 r hr) (fun q => by unfold am; rw [q]; rfl), z _ _ (h.p1 r hr) (fun q => by unfold am; rw [q]; rfl)]
    rfl
  unfold f_X8_goes
  cases hd : D p with
  | true =>
    rw [dz hd]
    obtain ⟨n', hn'⟩ : ∃ n', n = n' + 1 := ⟨n - 1, by omega⟩
    have stp : ∀ t a b, ux_lp2 (b_X8_goes_4 n (nI p)) (t + 1) a b S = b_X8_goes_4 n (nI p) (ux_lp2 (b_X8_goes_4 n (nI p)) t) a b S := fun _ _ _ => rfl
    have : ux_lp2 (b_X8_goes_4 n (nI p)) n 0 0 S = ux_lp2 (b_X8_goes_4 n (nI p)) (n' + 1) 0 0 S := by rw [← hn']
    rw [this, stp]
    generalize ux_lp2 (b_X8_goes_4 n (nI p)) n' = K
    unfold b_X8_goes_4
    rw [t_isDead hn h16 h.ha h.m69 hp, ux_bi_s, hD p hp, hd, if_neg (show ¬ bi true = 0 by decide), ite_self]
  | false =>
    refine ux_lpi2 (b := b_X8_goes_4 n (nI p)) nr (fun m x T => x = bx_sum (fun r => (if upl (S.1 42) p (S.1 45 r) then am S D 0 r else 0) + (if upl (S.1 42) p (S.1 46 r) then am S D 1 r else 0)) m ∧ T = S) (fun o => o = some (thr S D nr p, S)) ?_ ?_ n 0 0 S (by omega) (by omega) ⟨rfl, rfl⟩
    · intro m x T hm hI k hk
      obtain ⟨rfl, rfl⟩ := hI
      unfold b_X8_goes_4
      rw [h.m0, if_neg (nI_ge hm (by omega)), t_isDead hn h16 h.ha h.m69 hp, ux_bi_s, hD p hp, hd, if_pos (show bi false = 0 by decide), B _ _ _ hm]
      exact hk _ _ ⟨rfl, rfl⟩
    · intro x T hI k
      obtain ⟨rfl, rfl⟩ := hI
      unfold b_X8_goes_4
      rw [h.m0, if_pos (nI_le (Nat.le_refl _) (by omega))]
      rfl
theorem RFeed.bits {S : ux_S} {nf nr : Nat} (h : RFeed S nf nr) : ∃ F, F < 65536 ∧ S.1 5 5 = nI F ∧ (∀ f, f < nf → Fm S f = F.testBit f) ∧ (∀ f, f < 16 → S.1 71 f = if F.testBit f then 1 else 0) := by
  obtain ⟨g0, g1, g2, g3, g4, ⟨F, e1, e2, e3⟩, g6⟩ := h
  refine ⟨F, e1, e2, fun f hf => ?_, fun f hf => (e3 f hf).1⟩
  unfold Fm
  rw [(e3 f (by omega)).1, g3]
  have : ¬ nI f = -4 := nI_nm4 (by omega)
  cases F.testBit f <;> simp [this]
theorem pr_through (n : Nat) (hn : 20 ≤ n) (p0 : Int32) : alike (fun S => f_X7_through n S p0) (fun S => f_X8_through n S p0) := by
  intro S hR
  obtain ⟨nr, nm, nf, nc, nt, h1, h2, h3, h4, h5, h6, h7⟩ := id hR
  have h := fo_of h1 h5
  have h16 := h.n16
  obtain ⟨F, f1, f2, f3, f4⟩ := h5.bits
  rcases hs_cases p0 (n := nf) (by omega) with e | ⟨e, f, hf, rfl⟩
  · refine ⟨-1, S, S, ?_, ?_, hR⟩
    · simp only [f_X7_through, t_has1 h.c4, ux_bi_s, e, i00, if_true]
    · simp only [f_X8_through, t_isFeed (by omega) h.m22, ux_bi_s, e, i00, if_true]
  · obtain ⟨Z, z1, z2, z3⟩ := t_flow hn h (dd (S.1 42) F.testBit)
    refine ⟨thr S (dd (S.1 42) F.testBit) nr f, Z, Z, ?_, ?_, hR.sm z2.sm⟩
    · simp only [f_X7_through, t_has1 h.c4, ux_bi_s, e, i10, if_false, f2, t_dead hn h16 h.c4 h.ha f1, z1, ux_bv_s, ux_ibn (by omega : f < 16) (by omega), gdt, nI_clamp (by omega : f < 2 ^ 31), z3 f hf]
    · have hZ := h.e z2
      have h5Z : RFeed Z nf nr := h5.cong (fun i k q => z2.sm.1 i k (by unfold PFeed at q; unfold PAll; omega))
      have : f_X8_goes n Z (nI f) = some (thr S (dd (S.1 42) F.testBit) nr f, Z) := by
        rw [← thr_e z2]
        refine t_goes hn hZ (fun g hg => ?_) hf
        rw [z2.2 42 (by omega)]
        refine dd_cong h.ha h16 (fun k hk => ?_) g hg
        rw [← f3 k hk]
        unfold Fm
        rw [z2.2 71 (by omega), z2.2 8 (by omega)]
      simp only [f_X8_through, t_isFeed (by omega) hZ.m22, ux_bi_s, e, i10, if_false, this]
