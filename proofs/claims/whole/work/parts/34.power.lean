/-! power, best -/
def LT (S : ux_S) (nr : Nat) : Nat := fb_sm (fun i => tn (S.1 9 i)) nr
def BL (S : ux_S) (f : Nat) : Nat := tn (S.1 2 1) * f * f * f
def PW (S : ux_S) (nr a f : Nat) : Nat := BL S f + ((BL S f + LT S nr) * tn (S.1 22 (a - 10)) + 999) / 1000
theorem LT_le {S : ux_S} {nr : Nat} (h : RHall S nr) : LT S nr ≤ 8000 := by
  have h8 := h.1
  have : LT S nr ≤ nr * 1000 := by
    unfold LT
    rw [← fb_sm_const]
    refine fb_sm_le (fun i hi => ?_)
    have h1 := (tn_rg (h.2.2.2.1 i hi).1.2 (by decide)).2.2
    omega
  have : nr * 1000 ≤ 8 * 1000 := Nat.mul_le_mul_right _ h8
  omega
theorem BL_le {S : ux_S} {f : Nat} (h : RPrices S) (hf : f ≤ 5) : BL S f ≤ 12500 := by
  have h1 := (tn_rg h.1.2 (by decide)).2.2
  unfold BL
  calc tn (S.1 2 1) * f * f * f ≤ 100 * 5 * 5 * 5 := Nat.mul_le_mul (Nat.mul_le_mul (Nat.mul_le_mul (by omega) hf) hf) hf
    _ = 12500 := by decide
theorem PWin {S : ux_S} {nr a f : Nat} (h : RHall S nr) (hp : RPrices S) (ha : 10 ≤ a ∧ a ≤ 30) (hf : f ≤ 5) : (BL S f + LT S nr) * tn (S.1 22 (a - 10)) ≤ 20500000 := by
  have h1 := LT_le h
  have h2 := BL_le hp hf
  have h3 := (tn_rg (hp.2 (a - 10) (by omega)).2 (by decide)).2.2
  calc (BL S f + LT S nr) * tn (S.1 22 (a - 10)) ≤ 20500 * 1000 := Nat.mul_le_mul (by omega) (by omega)
    _ = 20500000 := by decide
theorem PW_le {S : ux_S} {nr a f : Nat} (h : RHall S nr) (hp : RPrices S) (ha : 10 ≤ a ∧ a ≤ 30) (hf : f ≤ 5) : PW S nr a f ≤ 100000 := by
  have h2 := BL_le hp hf
  have h3 := PWin h hp ha hf
  unfold PW
  omega
theorem t_allLoads {n : Nat} (hn : 10 ≤ n) {S : ux_S} {nr : Nat} (h : RHall S nr) : f_X2_allLoads n S = some (nI (LT S nr), S) := by
  obtain ⟨g0, g1, g2, g3, -⟩ := h
  have key : bx_sum (S.1 9) nr = nI (LT S nr) := bx_nI nr (fun i hi => (tn_rg (g3 i hi).1.2 (by decide)).1)
  rw [← key]
  unfold f_X2_allLoads
  refine ux_lpi2 (b := b_X2_allLoads_4 n) nr (fun m x T => x = bx_sum (S.1 9) m ∧ T = S) (fun o => o = some (bx_sum (S.1 9) nr, S)) ?_ ?_ n 0 0 S (by omega) (by omega) ⟨rfl, rfl⟩
  · intro m x T hm hI k hk
    obtain ⟨rfl, rfl⟩ := hI
    unfold b_X2_allLoads_4
    rw [g1, if_neg (nI_ge hm (by omega)), ux_ibn (by omega : m < 8) (by omega), gdt, nI_clamp (by omega), nI_1]
    exact hk _ _ ⟨rfl, rfl⟩
  · intro x T hI k
    obtain ⟨rfl, rfl⟩ := hI
    unfold b_X2_allLoads_4
    rw [g1, if_pos (nI_le (Nat.le_refl _) (by omega))]
theorem t_blown {S : ux_S} (x : Int32) (hx : x = S.1 2 1) (hp : RPrices S) (f : Nat) : x * nI f * nI f * nI f = nI (BL S f) := by
  rw [hx, (tn_rg hp.1.2 (by decide)).1, pk_mul, pk_mul, pk_mul]
  rfl
theorem t_powerOf7 {S : ux_S} {nr a f : Nat} (h : RHall S nr) (hp : RPrices S) (ha : 10 ≤ a ∧ a ≤ 30) (hf : f ≤ 5) : f_X5_powerOf S (nI a) (nI f) (nI (LT S nr)) = some (nI (PW S nr a f), S) := by
  have h3 := PWin h hp ha hf
  have hs1 : nI a - 10 = nI (a - 10) := by rw [show (10 : Int32) = nI 10 from rfl, pk_sub ha.1]
  unfold f_X5_powerOf
  rw [hs1, ux_ibn (by omega : a - 10 < 21) (by omega), gdt, nI_clamp (by omega), t_blown _ rfl hp, (tn_rg (hp.2 (a - 10) (by omega)).2 (by decide)).1, nI_add, pk_mul, show (1000 : Int32) = nI 1000 from rfl, t_divUp S (by omega) (by omega), ux_bi_s, nI_add]
  rfl
theorem t_powerOf8 {n : Nat} (hn : 10 ≤ n) {S : ux_S} {nr a f : Nat} (h : RHall S nr) (hp : RPrices S) (ha : 10 ≤ a ∧ a ≤ 30) (hf : f ≤ 5) : f_X8_powerOf n S (nI a) (nI f) = some (nI (PW S nr a f), S) := by
  have h3 := PWin h hp ha hf
  obtain ⟨g0, g1, g2, g3, -⟩ := id h
  have hs1 : nI a - 10 = nI (a - 10) := by rw [show (10 : Int32) = nI 10 from rfl, pk_sub ha.1]
  unfold f_X8_powerOf
  rw [t_blown _ hp.1.1 hp]
  refine ux_lpi3 (b := b_X8_powerOf_17 n (nI a) (nI f)) nr (fun m x y T => x = nI (BL S f) ∧ y = nI (BL S f + fb_sm (fun i => tn (S.1 9 i)) m) ∧ T = S) (fun o => o = some (nI (PW S nr a f), S)) ?_ ?_ n 0 _ _ S (by omega) (by omega) ⟨rfl, rfl, rfl⟩
  · intro m x y T hm hI k hk
    obtain ⟨rfl, rfl, rfl⟩ := hI
    unfold b_X8_powerOf_17
    rw [g2, if_neg (nI_ge hm (by omega)), ux_ibn (by omega : m < 8) (by omega), gdt, nI_clamp (by omega), nI_1, (g3 m hm).1.1]
    refine hk _ _ _ ⟨rfl, ?_, rfl⟩
    rw [fb_sm_succ, ← Nat.add_assoc, ← nI_add (BL T f + fb_sm (fun i => tn (T.1 9 i)) m), ← (tn_rg (g3 m hm).1.2 (by decide)).1]
  · intro x y T hI k
    obtain ⟨rfl, rfl, rfl⟩ := hI
    unfold b_X8_powerOf_17
    have e2 : T.1 59 (a - 10) = nI (tn (T.1 22 (a - 10))) := by rw [(hp.2 (a - 10) (by omega)).1]; exact (tn_rg (hp.2 (a - 10) (by omega)).2 (by decide)).1
    have hq : (BL T f + fb_sm (fun i => tn (T.1 9 i)) nr) * tn (T.1 22 (a - 10)) + 999 < 2 ^ 31 := by
      have : LT T nr = fb_sm (fun i => tn (T.1 9 i)) nr := rfl
      rw [← this]; omega
    rw [g2, if_pos (nI_le (Nat.le_refl _) (by omega)), hs1, ux_ibn (by omega : a - 10 < 21) (by omega), gdt, nI_clamp (by omega), e2, pk_mul, show (999 : Int32) = nI 999 from rfl, show (1000 : Int32) = nI 1000 from rfl, nI_add, pk_div hq (by omega) (by omega), nI_add]
    rfl
theorem smPrices {S Z : ux_S} (h : sm S Z) : ag PPrices S Z := fun i k q => h.1 i k (by unfold PPrices at q; unfold PAll; omega)
theorem pr_power (n : Nat) (hn : 10 ≤ n) (p0 p1 : Int32) : alike (fun S => f_X7_power n S p0 p1) (fun S => f_X8_power n S p0 p1) := by
  intro S hR
  obtain ⟨nr, nm, nf, nc, nt, h1, h2, h3, h4, h5, h6, h7⟩ := id hR
  rcases ir_cases p0 10 30 with ⟨e, -⟩ | ⟨e, h8⟩
  · refine ⟨-1, S, S, ?_, ?_, hR⟩
    · simp only [f_X7_power, t_isAir, ux_bi_s, e, i00, if_true]
    · simp only [f_X8_power, ti_10_30, ux_bi_s, e, i00, if_true]
  · rcases ir_cases p1 1 5 with ⟨e2, -⟩ | ⟨e2, h9⟩
    · refine ⟨-1, S, S, ?_, ?_, hR⟩
      · simp only [f_X7_power, t_isAir, t_isFan, ux_bi_s, e, e2, i10, if_false, i00, if_true]
      · simp only [f_X8_power, ti_10_30, ti_1_5, ux_bi_s, e, e2, i10, if_false, i00, if_true]
    · obtain ⟨a, a1, a2, rfl⟩ := rg_nI (ir_rg h8 (by decide) (by decide) : rg 10 30 p0) (by decide)
      obtain ⟨f, f1, f2, rfl⟩ := rg_nI (ir_rg h9 (by decide) (by decide) : rg 1 5 p1) (by decide)
      refine ⟨nI (PW S nr a f), S, S, ?_, ?_, hR⟩
      · simp only [f_X7_power, t_isAir, t_isFan, ux_bi_s, e, e2, i10, if_false, t_allLoads hn h1, t_powerOf7 h1 h2 (by omega : 10 ≤ a ∧ a ≤ 30) (by omega : f ≤ 5)]
      · simp only [f_X8_power, ti_10_30, ti_1_5, ux_bi_s, e, e2, i10, if_false, t_powerOf8 hn h1 h2 (by omega : 10 ≤ a ∧ a ≤ 30) (by omega : f ≤ 5)]
/-! best -/
def bstep (S : ux_S) (nr f : Nat) (an : Option (Nat × Nat)) (a : Nat) : Option (Nat × Nat) :=
  if fb_ct (hotB S nr a f) nr = 0 then (match an with
    | none => some (f, a)
    | some q => if PW S nr q.2 q.1 ≤ PW S nr a f then some q else some (f, a)) else an
def binn (S : ux_S) (nr f : Nat) (an : Option (Nat × Nat)) : Nat → Option (Nat × Nat)
  | 0 => an
  | k + 1 => bstep S nr f (binn S nr f an k) (10 + k)
def bout (S : ux_S) (nr : Nat) : Nat → Option (Nat × Nat)
  | 0 => none
  | k + 1 => binn S nr (k + 1) (bout S nr k) 21
def bok (an : Option (Nat × Nat)) : Prop := ∀ q, an = some q → (1 ≤ q.1 ∧ q.1 ≤ 5) ∧ (10 ≤ q.2 ∧ q.2 ≤ 30)
def benc (an : Option (Nat × Nat)) : Int32 := match an with
  | none => -4
  | some q => nI (10 * q.2 + q.1)
def bpw (S : ux_S) (nr : Nat) (an : Option (Nat × Nat)) : Int32 := match an with
  | none => 1000000000
  | some q => nI (PW S nr q.2 q.1)
theorem bok_step {S : ux_S} {nr f a : Nat} {an : Option (Nat × Nat)} (h : bok an) (hf : 1 ≤ f ∧ f ≤ 5) (ha : 10 ≤ a ∧ a ≤ 30) : bok (bstep S nr f an a) := by
  unfold bstep
  by_cases q : fb_ct (hotB S nr a f) nr = 0
  · rw [if_pos q]
    cases an with
    | none => intro q2 e; cases e; exact ⟨hf, ha⟩
    | some z =>
      show bok (if PW S nr z.2 z.1 ≤ PW S nr a f then some z else some (f, a))
      by_cases q3 : PW S nr z.2 z.1 ≤ PW S nr a f
      · rw [if_pos q3]; exact h
      · rw [if_neg q3]; intro q2 e; cases e; exact ⟨hf, ha⟩
  · rw [if_neg q]; exact h
theorem fst4_none {p : Nat → Bool} : ∀ t m, m + t < 2 ^ 31 → (fst4 p m t = -4 ↔ ∀ i, m ≤ i → i < m + t → p i = false)
  | 0, m, _ => ⟨fun _ i h1 h2 => by omega, fun _ => rfl⟩
  | t + 1, m, hb => by
    unfold fst4
    by_cases q : p m = true
    · rw [if_pos q]
      constructor
      · intro h; exact absurd h (nI_nm4 (by omega))
      · intro h
        have := h m (by omega) (by omega)
        rw [q] at this
        cases this
    · rw [if_neg q, fst4_none t (m + 1) (by omega)]
      constructor
      · intro h i h1 h2
        by_cases e : i = m
        · subst e; simpa using q
        · exact h i (by omega) (by omega)
      · intro h i h1 h2
        exact h i (by omega) (by omega)
theorem hotNone {S : ux_S} {nr a f : Nat} (hr : nr ≤ 8) : fst4 (hotB S nr a f) 0 nr = -4 ↔ fb_ct (hotB S nr a f) nr = 0 := by
  rw [fst4_none nr 0 (by omega), fb_ct_zero]
  constructor
  · intro h k hk; exact h k (by omega) (by omega)
  · intro h i _ h2; exact h i (by omega)
theorem t_best7 {n : Nat} (hn : 40 ≤ n) {S : ux_S} {nr : Nat} (h : RHall S nr) (hp : RPrices S) : f_X7_best n S = some (benc (bout S nr 5), S) := by
  have h8 := h.1
  unfold f_X7_best
  rw [t_allLoads (by omega) h, ux_bi_s]
  refine ux_lpi4 (b := b_X7_best_17 n) 6 (fun m x y z T => x = nI (LT S nr) ∧ y = bpw S nr (bout S nr (m - 1)) ∧ z = benc (bout S nr (m - 1)) ∧ T = S ∧ 1 ≤ m ∧ bok (bout S nr (m - 1))) (fun o => o = some (benc (bout S nr 5), S)) ?_ ?_ n 1 _ _ _ S (by omega) (by omega) ⟨rfl, rfl, rfl, rfl, by omega, fun q e => by cases e⟩
  · intro f x y z T hf hI k hk
    obtain ⟨rfl, rfl, rfl, rfl, hf1, hok⟩ := hI
    unfold b_X7_best_17
    rw [if_neg (by rw [show (5 : Int32) = nI 5 from rfl]; exact nI_nlt (by omega) (by omega))]
    have hf5 : 1 ≤ f ∧ f ≤ 5 := by omega
    refine ux_lpi5 (b := b_X7_best_27 n k) 31 (fun a x y z w U => x = nI (LT T nr) ∧ y = bpw T nr (binn T nr f (bout T nr (f - 1)) (a - 10)) ∧ z = benc (binn T nr f (bout T nr (f - 1)) (a - 10)) ∧ w = nI f ∧ U = T ∧ 10 ≤ a ∧ bok (binn T nr f (bout T nr (f - 1)) (a - 10))) (fun o => o = some (benc (bout T nr 5), T)) ?_ ?_ n 10 _ _ _ _ T (by omega) (by omega) ⟨rfl, rfl, rfl, rfl, rfl, by omega, hok⟩
    · intro a x y z w U ha hI k2 hk2
      obtain ⟨rfl, rfl, rfl, rfl, rfl, ha1, hok2⟩ := hI
      have ha30 : 10 ≤ a ∧ a ≤ 30 := by omega
      have hstep : binn U nr f (bout U nr (f - 1)) (a + 1 - 10) = bstep U nr f (binn U nr f (bout U nr (f - 1)) (a - 10)) a := by
        rw [show a + 1 - 10 = (a - 10) + 1 by omega]
        show bstep U nr f _ (10 + (a - 10)) = _
        rw [show 10 + (a - 10) = a by omega]
      have hokn := bok_step (S := U) (nr := nr) hok2 hf5 ha30
      unfold b_X7_best_27
      rw [if_neg (by rw [show (30 : Int32) = nI 30 from rfl]; exact nI_nlt (by omega) (by omega)), t_powerOf7 h hp ha30 hf5.2, ux_bi_s]
      generalize binn U nr f (bout U nr (f - 1)) (a - 10) = an at hok2 hstep hokn ⊢
      have hPW := PW_le h hp ha30 hf5.2
      have hfh := t_firstHot (n := n) (av := a) (by omega) h (by omega) hf5
      have keep : bstep U nr f an a = an → k2 (nI (LT U nr)) (bpw U nr an) (benc an) (nI f) (nI (a + 1)) U = some (benc (bout U nr 5), U) := by
        intro e
        refine hk2 _ _ _ _ _ ⟨rfl, ?_, ?_, rfl, rfl, by omega, ?_⟩ <;> rw [hstep, e]
        exact hok2
      have upd : bstep U nr f an a = some (f, a) → k2 (nI (LT U nr)) (nI (PW U nr a f)) (10 * nI a + nI f) (nI f) (nI (a + 1)) U = some (benc (bout U nr 5), U) := by
        intro e
        refine hk2 _ _ _ _ _ ⟨rfl, ?_, ?_, rfl, rfl, by omega, ?_⟩ <;> rw [hstep, e]
        · rfl
        · show 10 * nI a + nI f = nI (10 * a + f)
          rw [show (10 : Int32) = nI 10 from rfl, pk_mul, nI_add]
        · rw [e] at hokn; exact hokn
      by_cases hle : bpw U nr an ≤ nI (PW U nr a f)
      · rw [if_pos hle, nI_1]
        refine keep ?_
        cases an with
        | none =>
          exfalso
          have : (1000000000 : Int32) ≤ nI (PW U nr a f) := hle
          rw [show (1000000000 : Int32) = nI 1000000000 from rfl, nI_leI (by omega) (by omega)] at this
          omega
        | some q =>
          have hq := hok2 q rfl
          have hPq := PW_le h hp hq.2 hq.1.2
          have : nI (PW U nr q.2 q.1) ≤ nI (PW U nr a f) := hle
          rw [nI_leI (by omega) (by omega)] at this
          unfold bstep
          by_cases q0 : fb_ct (hotB U nr a f) nr = 0
          · rw [if_pos q0]; show (if PW U nr q.2 q.1 ≤ PW U nr a f then some q else some (f, a)) = _; rw [if_pos this]
          · rw [if_neg q0]
      · rw [if_neg hle, hfh, ux_bi_s]
        by_cases q0 : fb_ct (hotB U nr a f) nr = 0
        · rw [if_pos ((hotNone h8).mpr q0), nI_1]
          refine upd ?_
          unfold bstep
          rw [if_pos q0]
          cases an with
          | none => rfl
          | some q =>
            have hq := hok2 q rfl
            have hPq := PW_le h hp hq.2 hq.1.2
            have : ¬ nI (PW U nr q.2 q.1) ≤ nI (PW U nr a f) := hle
            rw [nI_leI (by omega) (by omega)] at this
            show (if PW U nr q.2 q.1 ≤ PW U nr a f then some q else some (f, a)) = _
            rw [if_neg this]
        · rw [if_neg (fun q2 => q0 ((hotNone h8).mp q2)), nI_1]
          refine keep ?_
          unfold bstep
          rw [if_neg q0]
    · intro x y z w U hI k2
      obtain ⟨rfl, rfl, rfl, rfl, rfl, -, hok2⟩ := hI
      unfold b_X7_best_27
      rw [if_pos (by decide), nI_1]
      have e : bout U nr (f + 1 - 1) = binn U nr f (bout U nr (f - 1)) (31 - 10) := by
        obtain ⟨g, rfl⟩ : ∃ g, f = g + 1 := ⟨f - 1, by omega⟩
        rfl
      refine hk _ _ _ _ ⟨rfl, ?_, ?_, rfl, by omega, ?_⟩ <;> rw [e]
      exact hok2
  · intro x y z T hI k
    obtain ⟨rfl, rfl, rfl, rfl, -, -⟩ := hI
    unfold b_X7_best_17
    rw [if_pos (by decide)]
theorem dec10 {a f : Nat} (hf : f < 10) (ha : a < 100) : nI (10 * a + f) / 10 = nI a ∧ nI (10 * a + f) - nI (10 * a + f) / 10 * 10 = nI f := by
  rw [show (10 : Int32) = nI 10 from rfl, pk_rem (by omega) (by omega) (by omega), pk_div (by omega) (by omega) (by omega)]
  constructor
  · congr 1; omega
  · congr 1; omega
theorem t_best8 {n : Nat} (hn : 40 ≤ n) {S : ux_S} {nr : Nat} (h : RHall S nr) (hp : RPrices S) (hc : cl0 S) : ux_lp2 (b_X8_best_9 n) n (-4) 1 S = some (benc (bout S nr 5), S) := by
  have h8 := h.1
  refine ux_lpi2 (b := b_X8_best_9 n) 6 (fun m z T => z = benc (bout S nr (m - 1)) ∧ T = S ∧ 1 ≤ m ∧ bok (bout S nr (m - 1))) (fun o => o = some (benc (bout S nr 5), S)) ?_ ?_ n 1 _ S (by omega) (by omega) ⟨rfl, rfl, by omega, fun q e => by cases e⟩
  · intro f z T hf hI k hk
    obtain ⟨rfl, rfl, hf1, hok⟩ := hI
    unfold b_X8_best_9
    rw [if_neg (by rw [show (5 : Int32) = nI 5 from rfl]; exact nI_nlt (by omega) (by omega))]
    have hf5 : 1 ≤ f ∧ f ≤ 5 := by omega
    refine ux_lpi3 (b := b_X8_best_17 n k) 31 (fun a z w U => z = benc (binn T nr f (bout T nr (f - 1)) (a - 10)) ∧ w = nI f ∧ U = T ∧ 10 ≤ a ∧ bok (binn T nr f (bout T nr (f - 1)) (a - 10))) (fun o => o = some (benc (bout T nr 5), T)) ?_ ?_ n 10 _ _ T (by omega) (by omega) ⟨rfl, rfl, rfl, by omega, hok⟩
    · intro a z w U ha hI k2 hk2
      obtain ⟨rfl, rfl, rfl, ha1, hok2⟩ := hI
      have ha30 : 10 ≤ a ∧ a ≤ 30 := by omega
      have hstep : binn U nr f (bout U nr (f - 1)) (a + 1 - 10) = bstep U nr f (binn U nr f (bout U nr (f - 1)) (a - 10)) a := by
        rw [show a + 1 - 10 = (a - 10) + 1 by omega]
        show bstep U nr f _ (10 + (a - 10)) = _
        rw [show 10 + (a - 10) = a by omega]
      have hokn := bok_step (S := U) (nr := nr) hok2 hf5 ha30
      unfold b_X8_best_17 b_X8_best_59
      rw [if_neg (by rw [show (30 : Int32) = nI 30 from rfl]; exact nI_nlt (by omega) (by omega)), t_hots (by omega) h hc (by omega) hf5, ux_bi_s]
      generalize binn U nr f (bout U nr (f - 1)) (a - 10) = an at hok2 hstep hokn ⊢
      have hPW := PW_le h hp ha30 hf5.2
      have hct := fb_ct_le (hotB U nr a f) nr
      have keep : bstep U nr f an a = an → k2 (benc an) (nI f) (nI (a + 1)) U = some (benc (bout U nr 5), U) := by
        intro e
        refine hk2 _ _ _ ⟨?_, rfl, rfl, by omega, ?_⟩ <;> rw [hstep, e]
        exact hok2
      have upd : bstep U nr f an a = some (f, a) → k2 (10 * nI a + nI f) (nI f) (nI (a + 1)) U = some (benc (bout U nr 5), U) := by
        intro e
        refine hk2 _ _ _ ⟨?_, rfl, rfl, by omega, ?_⟩ <;> rw [hstep, e]
        · show 10 * nI a + nI f = nI (10 * a + f)
          rw [show (10 : Int32) = nI 10 from rfl, pk_mul, nI_add]
        · rw [e] at hokn; exact hokn
      by_cases q0 : fb_ct (hotB U nr a f) nr = 0
      · rw [q0, if_pos nI_0]
        cases an with
        | none =>
          rw [show benc none = (-4 : Int32) from rfl, if_pos rfl, nI_1]
          refine upd ?_
          unfold bstep
          rw [if_pos q0]
        | some q =>
          have hq := hok2 q rfl
          have hPq := PW_le h hp hq.2 hq.1.2
          have hd := dec10 (a := q.2) (f := q.1) (by omega) (by omega)
          rw [show benc (some q) = nI (10 * q.2 + q.1) from rfl, if_neg (nI_nm4 (by omega)), t_powerOf8 (by omega) h hp ha30 hf5.2, ux_bi_s, hd.2, hd.1, t_powerOf8 (by omega) h hp hq.2 hq.1.2, ux_bi_s, nI_1]
          by_cases hle : PW U nr q.2 q.1 ≤ PW U nr a f
          · rw [if_pos (nI_le hle (by omega))]
            refine keep ?_
            unfold bstep
            rw [if_pos q0]
            show (if PW U nr q.2 q.1 ≤ PW U nr a f then some q else some (f, a)) = _
            rw [if_pos hle]
          · rw [if_neg (nI_ge (by omega) (by omega))]
            refine upd ?_
            unfold bstep
            rw [if_pos q0]
            show (if PW U nr q.2 q.1 ≤ PW U nr a f then some q else some (f, a)) = _
            rw [if_neg hle]
      · rw [if_neg (nI_ne0 (by omega) (by omega)), nI_1]
        refine keep ?_
        unfold bstep
        rw [if_neg q0]
    · intro z w U hI k2
      obtain ⟨rfl, rfl, rfl, -, hok2⟩ := hI
      unfold b_X8_best_17
      rw [if_pos (by decide), nI_1]
      have e : bout U nr (f + 1 - 1) = binn U nr f (bout U nr (f - 1)) (31 - 10) := by
        obtain ⟨g, rfl⟩ : ∃ g, f = g + 1 := ⟨f - 1, by omega⟩
        rfl
      refine hk _ _ ⟨?_, rfl, by omega, ?_⟩ <;> rw [e]
      exact hok2
  · intro z T hI k
    obtain ⟨rfl, rfl, -, -⟩ := hI
    unfold b_X8_best_9
    rw [if_pos (by decide)]
theorem bstep_cong {S Z : ux_S} {nr f a : Nat} {an : Option (Nat × Nat)} (hr : nr ≤ 8) (h1 : ag PHall S Z) (h2 : ag PPrices S Z) : bstep Z nr f an a = bstep S nr f an a := by
  have hb : fb_ct (hotB Z nr a f) nr = fb_ct (hotB S nr a f) nr := fb_ct_cong (fun k hk => hotB_cong h1 (by omega))
  have hP : ∀ x y, PW Z nr x y = PW S nr x y := by
    intro x y
    have e9 : Z.1 9 = S.1 9 := funext fun i => h1 9 i (by unfold PHall; omega)
    unfold PW BL LT
    rw [e9, h2 2 1 (by unfold PPrices; omega), h2 22 (x - 10) (by unfold PPrices; omega)]
  unfold bstep
  rw [hb]
  cases an with
  | none => rfl
  | some q => simp only [hP]
theorem bout_cong {S Z : ux_S} {nr : Nat} (hr : nr ≤ 8) (h1 : ag PHall S Z) (h2 : ag PPrices S Z) : ∀ k, bout Z nr k = bout S nr k := by
  have hi : ∀ f an k, binn Z nr f an k = binn S nr f an k := by
    intro f an k
    induction k with
    | zero => rfl
    | succ k ih => show bstep Z nr f (binn Z nr f an k) _ = bstep S nr f (binn S nr f an k) _; rw [ih, bstep_cong hr h1 h2]
  intro k
  induction k with
  | zero => rfl
  | succ k ih => show binn Z nr _ (bout Z nr k) _ = binn S nr _ (bout S nr k) _; rw [ih, hi]
theorem pr_best (n : Nat) (hn : 40 ≤ n) : alike (fun S => f_X7_best n S) (fun S => f_X8_best n S) := by
  intro S hR
  obtain ⟨nr, nm, nf, nc, nt, h1, h2, h3, h4, h5, h6, h7⟩ := id hR
  obtain ⟨Z, z1, z2, z3, z4⟩ := t_clear (n := n) (by omega) S
  have hsm := cl_sm z3 z4
  refine ⟨benc (bout S nr 5), S, Z, t_best7 hn h1 h2, ?_, hR.sm hsm⟩
  have := t_best8 hn (h1.cong (smHall hsm)) (h2.cong (smPrices hsm)) z2
  rw [bout_cong h1.1 (smHall hsm) (smPrices hsm)] at this
  simp only [f_X8_best, z1, ux_bv_s]
  exact this
