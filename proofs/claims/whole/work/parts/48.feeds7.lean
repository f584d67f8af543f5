/-! feeds: weak, the reference -/
section MW
variable {n : Nat} {S : ux_S} {nf nr F : Nat}
theorem th_D (h : fo S nf nr) (h71 : ∀ f, f < 16 → S.1 71 f = if F.testBit f then 1 else 0) {w : Nat} (hw : w < nf) : ∀ f, f < nf → dd ((ux_i S 8 27 (nI w)).1 42) (Fm (ux_i S 8 27 (nI w))) f = dd (S.1 42) (F ||| 2 ^ w).testBit f := by
  have h16 := h.n16
  rw [ux_i_ne (by omega)]
  refine dd_cong h.ha h16 (fun k hk => ?_)
  unfold Fm
  rw [rd_ne (by omega), ux_i_same, h71 k (by omega), Nat.testBit_or, Nat.testBit_two_pow]
  have : decide (nI k = nI w) = decide (w = k) := by
    rw [decide_eq_decide, nI_eq (by omega) (by omega)]
    exact ⟨fun q => q.symm, fun q => q.symm⟩
  rw [this]
  cases F.testBit k <;> simp
theorem no_D (h : fo S nf nr) (h27 : S.1 8 27 = -4) (h71 : ∀ f, f < 16 → S.1 71 f = if F.testBit f then 1 else 0) : ∀ f, f < nf → dd (S.1 42) (Fm S) f = dd (S.1 42) F.testBit f := by
  have h16 := h.n16
  refine dd_cong h.ha h16 (fun k hk => ?_)
  unfold Fm
  rw [h27, h71 k (by omega)]
  have : ¬ nI k = -4 := nI_nm4 (by omega)
  cases F.testBit k <;> simp [this]
theorem w50 (hn : 20 ≤ n) (h : fo S nf nr) (h27 : S.1 8 27 = -4) (h71 : ∀ f, f < 16 → S.1 71 f = if F.testBit f then 1 else 0) {w m : Nat} (hw : w < nf) (hm : m < nf) (K : Int32 → Int32 → Int32 → ux_S → Option (Int32 × ux_S)) (e o : Bool) : b_X8_weak_50 n K (nI w) (bi e) (nI m) (bi o) S = K (nI w) (bi (e || (ovr S (dd (S.1 42) (F ||| 2 ^ w).testBit) nr m && !o))) (nI (m + 1)) S := by
  have h16 := h.n16
  have hg := t_goes hn (h.th (nI w)) (th_D h h71 hw) hm
  unfold b_X8_weak_50 b_X8_weak_84 b_X8_weak_80 b_X8_weak_85
  rw [hg, ux_bi_s, ux_ibn (by omega : m < 16) (by omega), gdt, nI_clamp (by omega), thr_th, rd_ne (by omega), h.rm m hm, put_back h27, nI_1]
  cases e
  · rw [if_pos (by rfl)]
    cases o
    · rw [if_pos (by rfl)]
      by_cases q : thr S (dd (S.1 42) (F ||| 2 ^ w).testBit) nr m ≤ S.1 43 m
      · have : ovr S (dd (S.1 42) (F ||| 2 ^ w).testBit) nr m = false := by simp [ovr, q]
        rw [if_pos q, this]; rfl
      · have : ovr S (dd (S.1 42) (F ||| 2 ^ w).testBit) nr m = true := by unfold ovr; exact decide_eq_true q
        rw [if_neg q, this]; rfl
    · rw [if_neg (by decide), Bool.not_true, Bool.and_false]; rfl
  · rw [if_neg (by decide), Bool.true_or]; rfl
theorem w14 (hn : 20 ≤ n) (h : fo S nf nr) (h27 : S.1 8 27 = -4) (h71 : ∀ f, f < 16 → S.1 71 f = if F.testBit f then 1 else 0) {w : Nat} (hw : w < nf) (hf : F.testBit w = false) (k2 : Int32 → ux_S → Option (Int32 × ux_S)) :
    ux_lp3 (b_X8_weak_14 n k2) n (nI w) 0 0 S = ux_lp3 (b_X8_weak_100 n k2) n (nI w) (bi (ex (wkO S (dd (S.1 42) F.testBit) (dd (S.1 42) (F ||| 2 ^ w).testBit) nr) nf)) 0 S := by
  have h16 := h.n16
  refine ux_lpi3 (b := b_X8_weak_14 n k2) nf (fun m x y T => x = nI w ∧ y = bi (ex (wkO S (dd (S.1 42) F.testBit) (dd (S.1 42) (F ||| 2 ^ w).testBit) nr) m) ∧ T = S) (fun o => o = ux_lp3 (b_X8_weak_100 n k2) n (nI w) (bi (ex (wkO S (dd (S.1 42) F.testBit) (dd (S.1 42) (F ||| 2 ^ w).testBit) nr) nf)) 0 S) ?_ ?_ n 0 (nI w) 0 S (by omega) (by omega) ⟨rfl, rfl, rfl⟩
  · intro m x y T hm hI k hk
    obtain ⟨rfl, rfl, rfl⟩ := hI
    unfold b_X8_weak_14
    rw [h.m22, if_neg (nI_ge hm (by omega)), ux_ibn (by omega : w < 16) (by omega), gdt, nI_clamp (by omega : w < 2 ^ 31), h71 w (by omega), hf, if_pos (by rfl), t_goes hn h (no_D h h27 h71) hm, ux_bi_s, ux_ibn (by omega : m < 16) (by omega), gdt, nI_clamp (by omega), h.rm m hm]
    have fin : ∀ o : Bool, ovr T (dd (T.1 42) F.testBit) nr m = o → b_X8_weak_50 n k (nI w) (bi (ex (wkO T (dd (T.1 42) F.testBit) (dd (T.1 42) (F ||| 2 ^ w).testBit) nr) m)) (nI m) (bi o) T = ux_lp3 (b_X8_weak_100 n k2) n (nI w) (bi (ex (wkO T (dd (T.1 42) F.testBit) (dd (T.1 42) (F ||| 2 ^ w).testBit) nr) nf)) 0 T := by
      intro o ho
      rw [w50 hn h h27 h71 hw hm]
      refine hk _ _ _ ⟨rfl, ?_, rfl⟩
      rw [ex_s, ← ho]; rfl
    by_cases q : thr T (dd (T.1 42) F.testBit) nr m ≤ T.1 43 m
    · rw [if_pos q]; exact fin false (by simp [ovr, q])
    · rw [if_neg q]; exact fin true (by unfold ovr; exact decide_eq_true q)
  · intro x y T hI k
    obtain ⟨rfl, rfl, rfl⟩ := hI
    unfold b_X8_weak_14
    rw [h.m22, if_pos (nI_le (Nat.le_refl _) (by omega))]
theorem w100 (hn : 20 ≤ n) (h : fo S nf nr) (h27 : S.1 8 27 = -4) (h71 : ∀ f, f < 16 → S.1 71 f = if F.testBit f then 1 else 0) {w : Nat} (hw : w < nf) (hf : F.testBit w = false) (k2 : Int32 → ux_S → Option (Int32 × ux_S)) (e : Bool) :
    ux_lp3 (b_X8_weak_100 n k2) n (nI w) (bi e) 0 S = b_X8_weak_164 n k2 (nI w) (bi (e || ex (wkD S (dd (S.1 42) F.testBit) (dd (S.1 42) (F ||| 2 ^ w).testBit)) nr)) S := by
  have h16 := h.n16
  have h8 := h.n8
  refine ux_lpi3 (b := b_X8_weak_100 n k2) nr (fun m x y T => x = nI w ∧ y = bi (e || ex (wkD S (dd (S.1 42) F.testBit) (dd (S.1 42) (F ||| 2 ^ w).testBit)) m) ∧ T = S) (fun o => o = b_X8_weak_164 n k2 (nI w) (bi (e || ex (wkD S (dd (S.1 42) F.testBit) (dd (S.1 42) (F ||| 2 ^ w).testBit)) nr)) S) ?_ ?_ n 0 (nI w) (bi e) S (by omega) (by omega) ⟨rfl, by rw [show ex (wkD S (dd (S.1 42) F.testBit) (dd (S.1 42) (F ||| 2 ^ w).testBit)) 0 = false from rfl, Bool.or_false], rfl⟩
  · intro m x y T hm hI k hk
    obtain ⟨rfl, rfl, rfl⟩ := hI
    unfold b_X8_weak_100 b_X8_weak_150 b_X8_weak_146 b_X8_weak_151
    rw [h.m0, if_neg (nI_ge hm (by omega)), ux_ibn (by omega : w < 16) (by omega), gdt, nI_clamp (by omega : w < 2 ^ 31), h71 w (by omega), hf, if_pos (by rfl), t_isDark hn h (no_D h h27 h71) hm, ux_bi_s, t_isDark hn (h.th (nI w)) (th_D h h71 hw) hm, ux_bi_s, put_back h27, drk_th, nI_1]
    simp only [bi0]
    have fin : ∀ o : Bool, ((e || ex (wkD T (dd (T.1 42) F.testBit) (dd (T.1 42) (F ||| 2 ^ w).testBit)) m) || (drk T (dd (T.1 42) (F ||| 2 ^ w).testBit) m && !drk T (dd (T.1 42) F.testBit) m)) = o → k (nI w) (bi o) (nI (m + 1)) T = b_X8_weak_164 n k2 (nI w) (bi (e || ex (wkD T (dd (T.1 42) F.testBit) (dd (T.1 42) (F ||| 2 ^ w).testBit)) nr)) T := by
      intro o ho
      refine hk _ _ _ ⟨rfl, ?_, rfl⟩
      rw [ex_s, ← Bool.or_assoc, ← ho]; rfl
    cases e1 : (e || ex (wkD T (dd (T.1 42) F.testBit) (dd (T.1 42) (F ||| 2 ^ w).testBit)) m)
    · rw [if_pos rfl]
      cases e2 : drk T (dd (T.1 42) F.testBit) m
      · rw [if_pos rfl]
        cases e3 : drk T (dd (T.1 42) (F ||| 2 ^ w).testBit) m
        · rw [if_pos rfl]; exact fin false (by rw [e1, e2, e3]; rfl)
        · rw [if_neg (by decide)]; exact fin true (by rw [e1, e2, e3]; rfl)
      · rw [if_neg (by decide)]; exact fin false (by rw [e1, e2]; simp)
    · rw [if_neg (by decide)]; exact fin true (by rw [e1]; rfl)
  · intro x y T hI k
    obtain ⟨rfl, rfl, rfl⟩ := hI
    unfold b_X8_weak_100
    rw [h.m0, if_pos (nI_le (Nat.le_refl _) (by omega))]
theorem lp3s (b : (Int32 → Int32 → Int32 → ux_S → Option (Int32 × ux_S)) → Int32 → Int32 → Int32 → ux_S → Option (Int32 × ux_S)) {n : Nat} (hn : 0 < n) (x y z : Int32) (S : ux_S) : ∃ K, ux_lp3 b n x y z S = b K x y z S := by
  obtain ⟨m, rfl⟩ : ∃ m, n = m + 1 := ⟨n - 1, by omega⟩
  exact ⟨ux_lp3 b m, rfl⟩
theorem t_mweak (hn : 20 ≤ n) (h : fo S nf nr) (h27 : S.1 8 27 = -4) (h71 : ∀ f, f < 16 → S.1 71 f = if F.testBit f then 1 else 0) : f_X8_weak n S = some (fst4 (fun f => wk S (dd (S.1 42) F.testBit) (dd (S.1 42) (F ||| 2 ^ f).testBit) nf nr) 0 nf, S) := by
  have h16 := h.n16
  unfold f_X8_weak
  have key : ∀ t m, m ≤ nf → nf < m + t → ux_lp1 (b_X8_weak_2 n) t (nI m) S = some (fst4 (fun f => wk S (dd (S.1 42) F.testBit) (dd (S.1 42) (F ||| 2 ^ f).testBit) nf nr) m (nf - m), S) := by
    intro t
    induction t with
    | zero => intro m h1 h2; omega
    | succ t ih =>
      intro m h1 h2
      show b_X8_weak_2 n (ux_lp1 (b_X8_weak_2 n) t) (nI m) S = _
      generalize ux_lp1 (b_X8_weak_2 n) t = K at ih ⊢
      unfold b_X8_weak_2
      rw [h.m22]
      by_cases hm : m < nf
      · rw [if_neg (nI_ge hm (by omega)), show nf - m = (nf - (m + 1)) + 1 by omega]
        unfold fst4
        cases hf : F.testBit m
        · rw [w14 hn h h27 h71 hm hf, w100 hn h h27 h71 hm hf]
          unfold b_X8_weak_164
          show _ = some (if (ex (wkO S (dd (S.1 42) F.testBit) (dd (S.1 42) (F ||| 2 ^ m).testBit) nr) nf || ex (wkD S (dd (S.1 42) F.testBit) (dd (S.1 42) (F ||| 2 ^ m).testBit)) nr) = true then _ else _, S)
          cases (ex (wkO S (dd (S.1 42) F.testBit) (dd (S.1 42) (F ||| 2 ^ m).testBit) nr) nf || ex (wkD S (dd (S.1 42) F.testBit) (dd (S.1 42) (F ||| 2 ^ m).testBit)) nr)
          · rw [if_pos (by rfl), if_neg (by decide), nI_1]
            exact ih (m + 1) (by omega) (by omega)
          · rw [if_neg (by decide), if_pos rfl]
        · have eF : F ||| 2 ^ m = F := by
            apply Nat.eq_of_testBit_eq
            intro i
            rw [Nat.testBit_or, Nat.testBit_two_pow]
            by_cases q : m = i
            · subst q; rw [hf]; rfl
            · simp [q]
          have w0 : wk S (dd (S.1 42) F.testBit) (dd (S.1 42) (F ||| 2 ^ m).testBit) nf nr = false := by
            rw [eF]
            unfold wk
            rw [ex_f.mpr (fun k _ => by unfold wkO; cases ovr S (dd (S.1 42) F.testBit) nr k <;> rfl), ex_f.mpr (fun k _ => by unfold wkD; cases drk S (dd (S.1 42) F.testBit) k <;> rfl)]
            rfl
          rw [if_neg (by rw [w0]; decide)]
          have hnf : 0 < nf := by omega
          obtain ⟨K1, e1⟩ := lp3s (b_X8_weak_14 n K) (by omega : 0 < n) (nI m) 0 0 S
          obtain ⟨K2, e2⟩ := lp3s (b_X8_weak_100 n K) (by omega : 0 < n) (nI m) 0 0 S
          have s2 : ux_lp3 (b_X8_weak_100 n K) n (nI m) 0 0 S = K (nI (m + 1)) S := by
            rw [e2]
            unfold b_X8_weak_100 b_X8_weak_164
            rw [ux_ibn (by omega : m < 16) (by omega), gdt, nI_clamp (by omega), h71 m (by omega), hf, if_neg (show ¬ (if true = true then (1 : Int32) else 0) = 0 by decide), ite_self, if_pos rfl, nI_1]
          have s1 : ux_lp3 (b_X8_weak_14 n K) n (nI m) 0 0 S = K (nI (m + 1)) S := by
            rw [e1]
            unfold b_X8_weak_14
            rw [ux_ibn (by omega : m < 16) (by omega), gdt, nI_clamp (by omega), h71 m (by omega), hf, if_neg (show ¬ (if true = true then (1 : Int32) else 0) = 0 by decide), ite_self, s2]
          rw [s1]
          exact ih (m + 1) (by omega) (by omega)
      · have : m = nf := by omega
        subst this
        rw [if_pos (nI_le (Nat.le_refl _) (by omega)), Nat.sub_self]
        rfl
  exact key n 0 (by omega) (by omega)
end MW
theorem pr_weak (n : Nat) (hn : 20 ≤ n) : alike (fun S => f_X7_weak n S) (fun S => f_X8_weak n S) := by
  intro S hR
  obtain ⟨nr, nm, nf, nc, nt, h1, h2, h3, h4, h5, h6, h7⟩ := id hR
  have h := fo_of h1 h5
  obtain ⟨F, f1, f2, f3, f4⟩ := h5.bits
  obtain ⟨Z, z1, z2⟩ := t_firstWeak hn h f1 f2
  have hZ := h.e z2
  have m := t_mweak (F := F) hn hZ (by rw [z2.2 8 (by omega)]; exact h5.2.2.2.1) (by rw [z2.2 71 (by omega)]; exact f4)
  refine ⟨_, Z, Z, ?_, m, hR.sm z2.sm⟩
  show f_X7_weak n S = _
  unfold f_X7_weak
  rw [z1, ux_bi_s]
  congr 2
  refine fst4_cong nf 0 (fun i _ _ => ?_)
  unfold wk
  rw [z2.2 42 (by omega)]
  congr 1
  · refine ex_cong (fun k _ => ?_)
    unfold wkO ovr
    rw [thr_e z2, thr_e z2, z2.2 43 (by omega)]
  · refine ex_cong (fun k _ => ?_)
    unfold wkD drk
    rw [z2.2 45 (by omega), z2.2 46 (by omega)]
