/-! feeds: chains -/
def dk (ab : Nat → Int32) (F : Nat → Bool) : Nat → Nat → Bool
  | 0, _ => false
  | t + 1, f => F f || (!decide (ab f = -4) && dk ab F t (tn (ab f)))
def dd (ab : Nat → Int32) (F : Nat → Bool) (f : Nat) : Bool := dk ab F (f + 1) f
theorem dk_fuel {ab : Nat → Int32} {F : Nat → Bool} {nf : Nat} (ha : abok ab nf) (hn : nf ≤ 16) : ∀ f t, f < nf → f < t → dk ab F t f = dd ab F f := by
  intro f
  induction f using Nat.strongRecOn with
  | _ f ih =>
    intro t hf ht
    obtain ⟨t', rfl⟩ : ∃ t', t = t' + 1 := ⟨t - 1, by omega⟩
    unfold dd
    show (F f || (!decide (ab f = -4) && dk ab F t' (tn (ab f)))) = (F f || (!decide (ab f = -4) && dk ab F f (tn (ab f))))
    rcases ha f hf with e | ⟨g, hg, e⟩
    · simp [e]
    · have : tn (ab f) = g := by rw [e]; exact nI_clamp (by omega)
      rw [this, ih g hg t' (by omega) (by omega), ih g hg f (by omega) hg]
theorem dd_top {ab : Nat → Int32} {F : Nat → Bool} {f : Nat} (h : ab f = -4) : dd ab F f = F f := by
  unfold dd dk
  simp [h]
theorem dd_up {ab : Nat → Int32} {F : Nat → Bool} {nf f g : Nat} (ha : abok ab nf) (hn : nf ≤ 16) (hf : f < nf) (hg : g < f) (e : ab f = nI g) : dd ab F f = (F f || dd ab F g) := by
  have h1 : tn (ab f) = g := by rw [e]; exact nI_clamp (by omega)
  have h2 : ¬ ab f = -4 := by rw [e]; exact nI_nm4 (by omega)
  conv => lhs; unfold dd dk
  rw [h1, dk_fuel ha hn g f (by omega) hg]
  simp [h2]
theorem dd_cong {ab : Nat → Int32} {F H : Nat → Bool} {nf : Nat} (ha : abok ab nf) (hn : nf ≤ 16) (h : ∀ f, f < nf → F f = H f) : ∀ f, f < nf → dd ab F f = dd ab H f := by
  intro f
  induction f using Nat.strongRecOn with
  | _ f ih =>
    intro hf
    rcases ha f hf with e | ⟨g, hg, e⟩
    · rw [dd_top e, dd_top e, h f hf]
    · rw [dd_up ha hn hf hg e, dd_up ha hn hf hg e, h f hf, ih g hg (by omega)]
/-- what is under a dead one is dead -/
theorem dd_under {ab : Nat → Int32} {F : Nat → Bool} {nf p : Nat} (ha : abok ab nf) (hn : nf ≤ 16) (hp : dd ab F p = true) : ∀ f, f < nf → dd ab (fun x => decide (x = p)) f = true → dd ab F f = true := by
  intro f
  induction f using Nat.strongRecOn with
  | _ f ih =>
    intro hf h
    by_cases q : f = p
    · subst q; exact hp
    · rcases ha f hf with e | ⟨g, hg, e⟩
      · rw [dd_top e] at h
        simp [q] at h
      · rw [dd_up ha hn hf hg e] at h ⊢
        simp only [q, decide_false, Bool.false_or] at h
        rw [ih g hg (by omega) h, Bool.or_true]
theorem dd_low {ab : Nat → Int32} {nf p : Nat} (ha : abok ab nf) (hn : nf ≤ 16) : ∀ f, f < nf → f < p → dd ab (fun x => decide (x = p)) f = false := by
  intro f
  induction f using Nat.strongRecOn with
  | _ f ih =>
    intro hf h
    have q : ¬ f = p := by omega
    rcases ha f hf with e | ⟨g, hg, e⟩
    · rw [dd_top e]; simp [q]
    · rw [dd_up ha hn hf hg e, ih g hg (by omega) (by omega)]; simp [q]
theorem dd_self {ab : Nat → Int32} {p : Nat} : dd ab (fun x => decide (x = p)) p = true := by
  unfold dd dk
  simp
/-- the rows of the feeds, as both sides keep them -/
def Fm (S : ux_S) (f : Nat) : Bool := decide (¬ S.1 71 f = 0) || decide (nI f = S.1 8 27)
theorem t_isDead {n : Nat} (hn : 20 ≤ n) {S : ux_S} {ab : Nat → Int32} {nf f : Nat} (h0 : nf ≤ 16) (ha : abok ab nf) (h69 : ∀ f, f < nf → S.1 69 f = ab f) (hf : f < nf) : f_X8_isDead n S (nI f) = some (bi (dd ab (Fm S) f), S) := by
  have key : ∀ f, f < nf → ∀ t b, f + 1 < t → ux_lp2 (b_X8_isDead_4 n (nI f)) t (bi b) (nI f) S = some (bi (b || dd ab (Fm S) f), S) ∧ ∀ p, ux_lp2 (b_X8_isDead_4 n p) t (bi b) (nI f) S = some (bi (b || dd ab (Fm S) f), S) := by
    intro f
    induction f using Nat.strongRecOn with
    | _ f ih =>
      intro hf t b ht
      have main : ∀ p, ux_lp2 (b_X8_isDead_4 n p) t (bi b) (nI f) S = some (bi (b || dd ab (Fm S) f), S) := by
        intro p
        obtain ⟨t', rfl⟩ : ∃ t', t = t' + 1 := ⟨t - 1, by omega⟩
        show b_X8_isDead_4 n p (ux_lp2 (b_X8_isDead_4 n p) t') (bi b) (nI f) S = _
        have nxt : ∀ c : Bool, (b || Fm S f) = c → ux_lp2 (b_X8_isDead_4 n p) t' (bi c) (ab f) S = some (bi (b || dd ab (Fm S) f), S) := by
          intro c hc
          rcases ha f hf with e | ⟨g, hg, e⟩
          · obtain ⟨t2, rfl⟩ : ∃ t2, t' = t2 + 1 := ⟨t' - 1, by omega⟩
            rw [e]
            show b_X8_isDead_4 n p (ux_lp2 (b_X8_isDead_4 n p) t2) (bi c) (-4) S = _
            unfold b_X8_isDead_4
            rw [if_pos rfl, bi_zb, gdt, dd_top e, hc]
          · rw [e, (ih g hg (by omega) t' c (by omega)).2 p, dd_up ha h0 hf hg e, ← hc, Bool.or_assoc]
        generalize ux_lp2 (b_X8_isDead_4 n p) t' = K at nxt ⊢
        unfold b_X8_isDead_4 b_X8_isDead_31 b_X8_isDead_36
        rw [if_neg (nI_nm4 (by omega)), ux_ibn (by omega : f < 16) (by omega)]
        simp only [gdt]
        rw [nI_clamp (by omega), h69 f hf]
        cases b with
        | true => rw [if_neg (by decide)]; exact nxt true rfl
        | false =>
          rw [if_pos (by rfl)]
          by_cases q : S.1 71 f = 0
          · rw [if_pos q]
            by_cases q2 : nI f = S.1 8 27
            · rw [if_pos q2]; exact nxt true (by simp [Fm, q2])
            · rw [if_neg q2]; exact nxt false (by simp [Fm, q, q2])
          · rw [if_neg q]; exact nxt true (by simp [Fm, q])
      exact ⟨main _, main⟩
  have := (key f hf n false (by omega)).1
  rw [Bool.false_or] at this
  exact this
theorem t_isUnder {n : Nat} (hn : 20 ≤ n) {S : ux_S} {ab : Nat → Int32} {nf f p : Nat} (h0 : nf ≤ 16) (ha : abok ab nf) (h69 : ∀ f, f < nf → S.1 69 f = ab f) (hf : f < nf) (hp : p < nf) : f_X8_isUnder n S (nI f) (nI p) = some (bi (dd ab (fun x => decide (x = p)) f), S) := by
  have key : ∀ f, f < nf → ∀ t p0, f + 1 < t → ux_lp1 (b_X8_isUnder_2 n p0 (nI p)) t (nI f) S = some (bi (dd ab (fun x => decide (x = p)) f), S) := by
    intro f
    induction f using Nat.strongRecOn with
    | _ f ih =>
      intro hf t p0 ht
      obtain ⟨t', rfl⟩ : ∃ t', t = t' + 1 := ⟨t - 1, by omega⟩
      show b_X8_isUnder_2 n p0 (nI p) (ux_lp1 (b_X8_isUnder_2 n p0 (nI p)) t') (nI f) S = _
      have nxt : ¬ f = p → ux_lp1 (b_X8_isUnder_2 n p0 (nI p)) t' (ab f) S = some (bi (dd ab (fun x => decide (x = p)) f), S) := by
        intro q
        rcases ha f hf with e | ⟨g, hg, e⟩
        · obtain ⟨t2, rfl⟩ : ∃ t2, t' = t2 + 1 := ⟨t' - 1, by omega⟩
          rw [e]
          show b_X8_isUnder_2 n p0 (nI p) (ux_lp1 (b_X8_isUnder_2 n p0 (nI p)) t2) (-4) S = _
          unfold b_X8_isUnder_2
          rw [if_pos rfl, dd_top e]
          simp [q, bi]
        · rw [e, ih g hg (by omega) t' p0 (by omega), dd_up ha h0 hf hg e]
          simp [q]
      generalize ux_lp1 (b_X8_isUnder_2 n p0 (nI p)) t' = K at nxt ⊢
      unfold b_X8_isUnder_2
      rw [if_neg (nI_nm4 (by omega)), ux_ibn (by omega : f < 16) (by omega)]
      simp only [gdt]
      rw [nI_clamp (by omega), h69 f hf]
      by_cases q : f = p
      · subst q; rw [if_pos rfl, dd_self]; rfl
      · rw [if_neg (by rw [nI_eq (by omega) (by omega)]; exact q)]; exact nxt q
  exact key f hf n _ (by omega)
theorem t_isIn (S : ux_S) {D f : Nat} (hD : D < 65536) (hf : f < 16) : f_X1_isIn S (nI D) (nI f) = some (bi (D.testBit f), S) := by
  unfold f_X1_isIn
  rw [if_neg (nI_pos (by omega))]
  by_cases q : D.testBit f = true
  · rw [if_pos ((bit_is (by omega) (by omega)).mpr q), q]; rfl
  · rw [if_neg (fun q2 => q ((bit_is (by omega) (by omega)).mp q2))]
    simp at q
    rw [q]; rfl
theorem t_isIn4 (S : ux_S) (D : Int32) : f_X1_isIn S D (-4) = some (0, S) := by
  unfold f_X1_isIn
  rw [if_pos (by decide)]
theorem bset_65536 (p : Nat → Bool) {n : Nat} (h : n ≤ 16) : bset p n < 65536 := Nat.lt_of_lt_of_le (bset_lt p n) (Nat.pow_le_pow_right (n := 2) (by omega) h)
theorem t_dead {n : Nat} (hn : 20 ≤ n) {S : ux_S} {nf : Nat} (h0 : nf ≤ 16) (h1 : S.1 5 4 = nI nf) (ha : abok (S.1 42) nf) {F : Nat} (hF : F < 65536) : f_X1_dead n S (nI F) = some (nI (bset (dd (S.1 42) F.testBit) nf), S) := by
  unfold f_X1_dead
  refine ux_lpi2 (b := b_X1_dead_4 n (nI F)) nf (fun m x T => x = nI (bset (dd (S.1 42) F.testBit) m) ∧ T = S) (fun o => o = some (nI (bset (dd (S.1 42) F.testBit) nf), S)) ?_ ?_ n 0 0 S (by omega) (by omega) ⟨rfl, rfl⟩
  · intro m x T hm hI k hk
    obtain ⟨rfl, rfl⟩ := hI
    have sx := bset_65536 (dd (T.1 42) F.testBit) (n := m) (by omega)
    have yes : dd (T.1 42) F.testBit m = true → k (nI (bset (dd (T.1 42) F.testBit) m) ||| ((1 : Int32) <<< (nI m &&& 31))) (nI m + 1) T = some (nI (bset (dd (T.1 42) F.testBit) nf), T) := by
      intro q
      rw [bit_set (by omega), nI_1]
      refine hk _ _ ⟨?_, rfl⟩
      conv => rhs; unfold bset
      rw [if_pos q]
    have no : dd (T.1 42) F.testBit m = false → k (nI (bset (dd (T.1 42) F.testBit) m)) (nI m + 1) T = some (nI (bset (dd (T.1 42) F.testBit) nf), T) := by
      intro q
      rw [nI_1]
      refine hk _ _ ⟨?_, rfl⟩
      conv => rhs; unfold bset
      rw [if_neg (by rw [q]; decide)]
    unfold b_X1_dead_4 b_X1_dead_33
    rw [h1, if_neg (nI_ge hm (by omega)), t_isIn T hF (by omega), ux_bi_s, ux_ibn (by omega : m < 16) (by omega)]
    simp only [gdt, bi0]
    rw [nI_clamp (by omega)]
    rcases ha m hm with e | ⟨g, hg, e⟩
    · rw [e, t_isIn4, ux_bi_s, if_pos rfl]
      rw [dd_top e] at yes no
      cases q : F.testBit m
      · rw [if_pos rfl]; exact no q
      · rw [if_neg (by decide)]; exact yes q
    · rw [e, t_isIn T sx (by omega), ux_bi_s, bset_bit]
      rw [dd_up ha h0 hm hg e] at yes no
      simp only [bi0, hg, decide_true, Bool.true_and]
      cases q : F.testBit m
      · rw [if_pos rfl]
        cases q2 : dd (T.1 42) F.testBit g
        · rw [if_pos rfl]; exact no (by rw [q, q2]; rfl)
        · rw [if_neg (by decide)]; exact yes (by rw [q, q2]; rfl)
      · rw [if_neg (by decide)]; exact yes (by rw [q]; rfl)
  · intro x T hI k
    obtain ⟨rfl, rfl⟩ := hI
    unfold b_X1_dead_4
    rw [h1, if_pos (nI_le (Nat.le_refl _) (by omega))]
