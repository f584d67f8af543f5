/-! draw -/
theorem t_cmple (x y : Int64) : lg_cmp x y ≤ 0 ↔ ¬ y < x := by
  rw [← t_cmpg x y]
  exact ⟨fun h q => absurd h (by rw [fa_le]; rw [fa_lt] at q; omega), fun h => fa_of_nlt h⟩
theorem wide_add {f : Int32} {c : Nat} (hc : c < 1000) (h : f.toInt + c < 2147483648) : f.toInt64 + (nI c).toInt64 = (f + nI c).toInt64 := by
  have h1 := fb_rng f
  have h2 : (nI c).toInt = (c : Int) := nI_toInt (by omega)
  have h3 : (f + nI c).toInt = f.toInt + c := by rw [fb_addI (by omega) (by omega), h2]
  apply Int64.toInt_inj.mp
  rw [fb_addL] <;> simp only [Int32.toInt_toInt64, h2, h3] <;> omega
/-- what is wrong with the cell number c of a sheet's row from f on: 0 for nothing -/
def dg (cell : Nat → Int64) (sz : Nat) (f : Int32) (c : Nat) : Int32 :=
  if hs (f + nI c) sz = 0 then -12 else if cell (f + nI c).toNatClampNeg < 0 ∨ 200 < cell (f + nI c).toNatClampNeg then -20 - nI c else 0
def dF (g : Nat → Int32) : Nat → Nat → Int32
  | _, 0 => 0
  | c, t + 1 => if g c = 0 then dF g (c + 1) t else g c
theorem dF_0 {g : Nat → Int32} : ∀ (t c : Nat), dF g c t = 0 → ∀ i, c ≤ i → i < c + t → g i = 0
  | 0, c, _, i, h1, h2 => by omega
  | t + 1, c, h, i, h1, h2 => by
    unfold dF at h
    by_cases q : g c = 0
    · rw [if_pos q] at h
      by_cases e : i = c
      · subst e; exact q
      · exact dF_0 t (c + 1) h i (by omega) (by omega)
    · rw [if_neg q] at h
      exact absurd h q
theorem dF_s {g : Nat → Int32} {c t : Nat} {v : Int32} (h : g c = v) (hv : ¬ v = 0) : dF g c (t + 1) = v := by
  unfold dF; rw [h, if_neg hv]
theorem dF_z {g : Nat → Int32} {c t : Nat} (h : g c = 0) : dF g c (t + 1) = dF g (c + 1) t := by
  conv => lhs; unfold dF
  rw [if_pos h]
theorem m20 {c : Nat} (h : c < 1000) : ¬ ((-20) : Int32) - nI c = 0 := by
  intro q
  have h2 : (nI c).toInt = (c : Int) := nI_toInt (by omega)
  have h3 : ((-20 : Int32)).toInt = -20 := by decide
  have := congrArg Int32.toInt q
  rw [fb_subI (by omega) (by omega), h2, h3, show (0 : Int32).toInt = 0 by decide] at this
  omega
def fok (f : Int32) (c : Nat) : Prop := c = 0 ∨ ∃ fn, fn < 64 ∧ f = nI fn
theorem fok_ov {f : Int32} {c : Nat} (h : fok f c) (hc : c < 1000) : f.toInt + c < 2147483648 := by
  rcases h with rfl | ⟨fn, h1, rfl⟩
  · have := fb_rng f; omega
  · rw [nI_toInt (by omega)]; omega
theorem fok_next {f : Int32} {c x sz : Nat} (h : fok f c) (hs : sz ≤ 64) (hx : x < sz) (e : f + nI c = nI x) : fok f (c + 1) := by
  rcases h with rfl | h
  · right
    refine ⟨x, by omega, ?_⟩
    rw [show nI 0 = (0 : Int32) from rfl, Int32.add_zero] at e
    exact e
  · exact Or.inr h
theorem t_refusal {n : Nat} {S : ux_S} {k sz N : Nat} (hk : k < 4) (hz : sz ≤ 64) (h : S.1 41 k = nI sz) (hN : N ≤ 64) (f : Int32) : ∀ t c, N < c + t → c ≤ N → fok f c → ux_lp1 (b_X6_refusal_3 n (nI k) f (nI N)) t (nI c) S = some (dF (dg (S.2 (36 + k)) sz f) c (N - c), S) := by
  intro t
  induction t with
  | zero => intro c h1 h2; omega
  | succ t ih =>
    intro c h1 h2 h3
    show b_X6_refusal_3 n (nI k) f (nI N) (ux_lp1 (b_X6_refusal_3 n (nI k) f (nI N)) t) (nI c) S = _
    generalize ux_lp1 (b_X6_refusal_3 n (nI k) f (nI N)) t = K at ih ⊢
    unfold b_X6_refusal_3
    by_cases hc : c < N
    · rw [if_neg (nI_ge hc (by omega)), t_hascell hk h, ux_bi_s, show N - c = (N - (c + 1)) + 1 by omega]
      rcases hs_cases (f + nI c) (n := sz) (by omega) with e | ⟨e, x, hx, ex⟩
      · have hg : dg (S.2 (36 + k)) sz f c = -12 := by unfold dg; rw [if_pos e]
        rw [if_pos e, dF_s hg (by decide)]
      · rw [if_neg (by rw [e]; decide), ux_ibn hk (by omega), gdt, ex, ux_ibn (by omega : x < 64) (by omega), gdt, nI_clamp (by omega), nI_clamp (by omega)]
        have hgg : dg (S.2 (36 + k)) sz f c = if S.2 (36 + k) x < 0 ∨ 200 < S.2 (36 + k) x then -20 - nI c else 0 := by
          unfold dg; rw [if_neg (by rw [e]; decide), ex, nI_clamp (by omega)]
        by_cases q1 : S.2 (36 + k) x < 0
        · rw [if_pos (Or.inl q1)] at hgg
          rw [if_pos ((t_cmpl _ _).mpr q1), dF_s hgg (m20 (by omega))]
        · rw [if_neg (fun q => q1 ((t_cmpl _ _).mp q))]
          by_cases q2 : 200 < S.2 (36 + k) x
          · rw [if_pos (Or.inr q2)] at hgg
            rw [if_neg (fun q => ((t_cmple _ _).mp q) q2), dF_s hgg (m20 (by omega))]
          · rw [if_neg (by rintro (q | q); exact q1 q; exact q2 q)] at hgg
            rw [if_pos ((t_cmple _ _).mpr q2), dF_z hgg, nI_1]
            exact ih (c + 1) (by omega) (by omega) (fok_next h3 hz hx ex)
    · have : c = N := by omega
      subst this
      rw [if_pos (nI_le (Nat.le_refl _) (by omega)), Nat.sub_self]
      rfl
theorem t_check8 {n : Nat} {S : ux_S} {k sz N nr : Nat} (hk : k < 4) (hz : sz ≤ 64) (h : S.1 64 k = nI sz) (hr : S.1 8 0 = nI nr) (hN : nr * nr = N) (hN2 : N ≤ 64) (p1 f : Int32) (hcell : ∀ i, i < 64 → S.2 65 (64 * k + i) = S.2 (36 + k) i) : ∀ t c, N < c + t → c ≤ N → fok f c → ux_lp1 (b_X8_draw_58 n (nI k) p1 f) t (nI c) S = if dF (dg (S.2 (36 + k)) sz f) c (N - c) = 0 then ux_lp1 (b_X8_draw_136 n (nI k) p1 f) n 0 S else some (dF (dg (S.2 (36 + k)) sz f) c (N - c), S) := by
  intro t
  induction t with
  | zero => intro c h1 h2; omega
  | succ t ih =>
    intro c h1 h2 h3
    show b_X8_draw_58 n (nI k) p1 f (ux_lp1 (b_X8_draw_58 n (nI k) p1 f) t) (nI c) S = _
    generalize ux_lp1 (b_X8_draw_58 n (nI k) p1 f) t = K at ih ⊢
    unfold b_X8_draw_58
    rw [hr, pk_mul, hN]
    by_cases hc : c < N
    · rw [if_neg (nI_ge hc (by omega)), ux_ibn hk (by omega), gdt, nI_clamp (by omega), h, wide_add (by omega) (fok_ov h3 (by omega)), t_inN S (f + nI c) (n := sz) (by omega), ux_bi_s, show N - c = (N - (c + 1)) + 1 by omega]
      rcases hs_cases (f + nI c) (n := sz) (by omega) with e | ⟨e, x, hx, ex⟩
      · have hg : dg (S.2 (36 + k)) sz f c = -12 := by unfold dg; rw [if_pos e]
        rw [if_pos e, dF_s hg (by decide), if_neg (by decide)]
      · have hq : (64 : Int32) * nI k + f + nI c = nI (64 * k + x) := by rw [Int32.add_assoc, ex, ix64]
        rw [if_neg (by rw [e]; decide), hq, ux_ibn (by omega : 64 * k + x < 256) (by omega), gdt, nI_clamp (by omega), hcell x (by omega)]
        have hgg : dg (S.2 (36 + k)) sz f c = if S.2 (36 + k) x < 0 ∨ 200 < S.2 (36 + k) x then -20 - nI c else 0 := by
          unfold dg; rw [if_neg (by rw [e]; decide), ex, nI_clamp (by omega)]
        have hin : f_X8_in S (S.2 (36 + k) x) 0 200 = some (if S.2 (36 + k) x < 0 ∨ 200 < S.2 (36 + k) x then 0 else 1, S) := by
          unfold f_X8_in
          by_cases q1 : S.2 (36 + k) x < 0
          · rw [if_pos ((t_cmpl _ _).mpr q1), if_pos (Or.inl q1)]
          · rw [if_neg (fun q => q1 ((t_cmpl _ _).mp q))]
            by_cases q2 : 200 < S.2 (36 + k) x
            · rw [if_pos ((t_cmpg _ _).mpr q2), if_pos (Or.inr q2)]
            · rw [if_neg (fun q => q2 ((t_cmpg _ _).mp q)), if_neg (by rintro (q | q); exact q1 q; exact q2 q)]
        rw [hin, ux_bi_s]
        by_cases q : S.2 (36 + k) x < 0 ∨ 200 < S.2 (36 + k) x
        · rw [if_pos q] at hgg
          rw [if_pos q, if_pos rfl, dF_s hgg (m20 (by omega)), if_neg (m20 (by omega))]
        · rw [if_neg q] at hgg
          rw [if_neg q, if_neg (by decide), dF_z hgg, nI_1]
          exact ih (c + 1) (by omega) (by omega) (fok_next h3 hz hx ex)
    · have : c = N := by omega
      subst this
      rw [if_pos (nI_le (Nat.le_refl _) (by omega)), Nat.sub_self]
      unfold dF
      rw [if_pos rfl]
/-- the table copied, as far as P says -/
def cp (S : ux_S) (v : Nat → Nat → Int32) (P : Nat → Nat → Bool) (T : ux_S) : Prop := T.2 = S.2 ∧ (∀ a b, ¬ (14 ≤ a ∧ a ≤ 21) → T.1 a b = S.1 a b) ∧ ∀ a b, a < 8 → b < 8 → T.1 (14 + a) b = if P a b then v a b else S.1 (14 + a) b
theorem cp.up {S T : ux_S} {v : Nat → Nat → Int32} {P P' : Nat → Nat → Bool} {j i : Nat} (h : cp S v P T) (hj : j < 8) (hP : ∀ a b, a < 8 → b < 8 → P' a b = (P a b || (decide (a = j) && decide (b = i)))) : cp S v P' (ux_i T (14 + j) i (v j i)) := by
  refine ⟨h.1, fun a b hab => ?_, fun a b ha hb => ?_⟩
  · rw [rd_ne (by omega)]; exact h.2.1 a b hab
  · rw [hP a b ha hb]
    by_cases q : a = j
    · subst q
      rw [rd_if]
      by_cases q2 : b = i
      · subst q2; rw [if_pos rfl]; simp
      · rw [if_neg q2, h.2.2 a b ha hb]; simp [q2]
    · rw [rd_ne (by omega), h.2.2 a b ha hb]; simp [q]
theorem cp.cong {S T : ux_S} {v : Nat → Nat → Int32} {P P' : Nat → Nat → Bool} (h : cp S v P T) (hP : ∀ a b, a < 8 → b < 8 → P' a b = P a b) : cp S v P' T := ⟨h.1, h.2.1, fun a b ha hb => by rw [hP a b ha hb]; exact h.2.2 a b ha hb⟩
def R_take (S : ux_S) (v : Nat → Nat → Int32) (nr : Nat) (o : Option ux_S) : Prop := ∃ T, o = some T ∧ cp S v (fun a b => decide (a < nr) && decide (b < nr)) T
theorem t_take {n : Nat} (hn : 10 ≤ n) {S : ux_S} {k nr fn sz : Nat} (hk : k < 4) (hr : nr ≤ 8) (h : S.1 1 5 = nI nr) (hz : sz ≤ 64) (hf : ∀ c, c < nr * nr → fn + c < sz) : R_take S (fun j i => (S.2 (36 + k) (fn + nr * j + i)).toInt32) nr (f_X2_takeShares n S (35 + 1 + k) 64 (nI fn)) := by
  unfold f_X2_takeShares
  refine ux_lpi1 (b := b_X2_takeShares_2 n (35 + 1 + k) 64 (nI fn)) nr (fun j T => cp S (fun j i => (S.2 (36 + k) (fn + nr * j + i)).toInt32) (fun a b => decide (a < j) && decide (b < nr)) T) (R_take S (fun j i => (S.2 (36 + k) (fn + nr * j + i)).toInt32) nr) ?_ ?_ n 0 S (by omega) (by omega) ⟨rfl, fun _ _ _ => rfl, fun a b _ _ => by simp⟩
  · intro j T hj hT kk hkk
    have hrT : T.1 1 5 = nI nr := by rw [hT.2.1 1 5 (by omega)]; exact h
    unfold b_X2_takeShares_2
    rw [hrT, if_neg (nI_ge hj (by omega))]
    refine ux_lpi2 (b := b_X2_takeShares_13 n (35 + 1 + k) 64 (nI fn) kk) nr (fun i x T => x = nI j ∧ cp S (fun j i => (S.2 (36 + k) (fn + nr * j + i)).toInt32) (fun a b => (decide (a < j) && decide (b < nr)) || (decide (a = j) && decide (b < i))) T) _ ?_ ?_ n 0 (nI j) T (by omega) (by omega) ⟨rfl, hT.cong (fun a b _ _ => by simp)⟩
    · intro i x U hi hU k2 hk2
      obtain ⟨rfl, hU⟩ := hU
      have hrU : U.1 1 5 = nI nr := by rw [hU.2.1 1 5 (by omega)]; exact h
      have hb1 : j * nr + i < nr * nr := by
        have : (j + 1) * nr ≤ nr * nr := Nat.mul_le_mul_right _ (by omega)
        rw [Nat.succ_mul] at this
        omega
      have hidx : fn + (nr * j + i) < sz := hf _ (by rw [Nat.mul_comm]; exact hb1)
      have hq : nI fn + nI nr * nI j + nI i = nI (fn + nr * j + i) := by rw [pk_mul, nI_add, nI_add]
      unfold b_X2_takeShares_13
      rw [hrU, if_neg (nI_ge hi (by omega)), ux_ibn (by omega : j < 8) (by omega), gdt, hq, ux_ibn (by omega : fn + nr * j + i < 64) (by omega), gdt, ux_ibn (by omega : i < 8) (by omega), gdt, nI_clamp (by omega), nI_clamp (by omega), nI_clamp (by omega), nI_1, hU.1]
      refine hk2 _ _ ⟨rfl, hU.up (j := j) (i := i) (by omega) (fun a b ha hb => ?_)⟩
      by_cases q1 : a = j <;> by_cases q2 : b = i <;> by_cases q3 : b < i <;> simp [q1, q2, q3] <;> omega
    · intro x U hU k2
      obtain ⟨rfl, hU⟩ := hU
      have hrU : U.1 1 5 = nI nr := by rw [hU.2.1 1 5 (by omega)]; exact h
      unfold b_X2_takeShares_13
      rw [hrU, if_pos (nI_le (Nat.le_refl _) (by omega)), nI_1]
      refine hkk _ (hU.cong (fun a b ha hb => ?_))
      by_cases q1 : a = j <;> by_cases q2 : a < j <;> by_cases q3 : b < nr <;> simp [q1, q2, q3] <;> omega
  · intro T hT kk
    have hrT : T.1 1 5 = nI nr := by rw [hT.2.1 1 5 (by omega)]; exact h
    unfold b_X2_takeShares_2
    rw [hrT, if_pos (nI_le (Nat.le_refl _) (by omega))]
    exact ⟨T, rfl, hT⟩
def R_tak8 (S : ux_S) (v : Nat → Nat → Int32) (nr : Nat) (o : Option (Int32 × ux_S)) : Prop := ∃ T, o = some (nI nr, T) ∧ (T.2 = S.2 ∧ (∀ a b, a ≠ 58 → T.1 a b = S.1 a b) ∧ ∀ a b, a < 8 → b < 8 → T.1 58 (8 * a + b) = if (decide (a < nr) && decide (b < nr)) = true then v a b else S.1 58 (8 * a + b))
def cm (S : ux_S) (v : Nat → Nat → Int32) (P : Nat → Nat → Bool) (T : ux_S) : Prop := T.2 = S.2 ∧ (∀ a b, a ≠ 58 → T.1 a b = S.1 a b) ∧ ∀ a b, a < 8 → b < 8 → T.1 58 (8 * a + b) = if P a b then v a b else S.1 58 (8 * a + b)
theorem cm.up {S T : ux_S} {v : Nat → Nat → Int32} {P P' : Nat → Nat → Bool} {j i : Nat} (h : cm S v P T) (hi : i < 8) (hP : ∀ a b, a < 8 → b < 8 → P' a b = (P a b || (decide (a = j) && decide (b = i)))) : cm S v P' (ux_i T 58 (8 * j + i) (v j i)) := by
  refine ⟨h.1, fun a b hab => ?_, fun a b ha hb => ?_⟩
  · rw [rd_ne hab]; exact h.2.1 a b hab
  · rw [hP a b ha hb, rd_if]
    by_cases q : a = j
    · subst q
      by_cases q2 : b = i
      · subst q2; rw [if_pos rfl]; simp
      · rw [if_neg (by omega), h.2.2 a b ha hb]; simp [q2]
    · rw [if_neg (by omega), h.2.2 a b ha hb]; simp [q]
theorem cm.cong {S T : ux_S} {v : Nat → Nat → Int32} {P P' : Nat → Nat → Bool} (h : cm S v P T) (hP : ∀ a b, a < 8 → b < 8 → P' a b = P a b) : cm S v P' T := ⟨h.1, h.2.1, fun a b ha hb => by rw [hP a b ha hb]; exact h.2.2 a b ha hb⟩
theorem t_take8 {n : Nat} (hn : 10 ≤ n) {S : ux_S} {k nr fn sz : Nat} (p1 : Int32) (hk : k < 4) (hr : nr ≤ 8) (h : S.1 8 0 = nI nr) (hz : sz ≤ 64) (hf : ∀ c, c < nr * nr → fn + c < sz) (hcell : ∀ i, i < 64 → S.2 65 (64 * k + i) = S.2 (36 + k) i) : R_tak8 S (fun j i => (S.2 (36 + k) (fn + nr * j + i)).toInt32) nr (ux_lp1 (b_X8_draw_136 n (nI k) p1 (nI fn)) n 0 S) := by
  refine ux_lpi1 (b := b_X8_draw_136 n (nI k) p1 (nI fn)) nr (fun j T => cm S (fun j i => (S.2 (36 + k) (fn + nr * j + i)).toInt32) (fun a b => decide (a < j) && decide (b < nr)) T) (R_tak8 S (fun j i => (S.2 (36 + k) (fn + nr * j + i)).toInt32) nr) ?_ ?_ n 0 S (by omega) (by omega) ⟨rfl, fun _ _ _ => rfl, fun a b _ _ => by simp⟩
  · intro j T hj hT kk hkk
    have hrT : T.1 8 0 = nI nr := by rw [hT.2.1 8 0 (by omega)]; exact h
    unfold b_X8_draw_136
    rw [hrT, if_neg (nI_ge hj (by omega))]
    refine ux_lpi2 (b := b_X8_draw_148 n (nI k) p1 (nI fn) kk) nr (fun i x T => x = nI j ∧ cm S (fun j i => (S.2 (36 + k) (fn + nr * j + i)).toInt32) (fun a b => (decide (a < j) && decide (b < nr)) || (decide (a = j) && decide (b < i))) T) _ ?_ ?_ n 0 (nI j) T (by omega) (by omega) ⟨rfl, hT.cong (fun a b _ _ => by simp)⟩
    · intro i x U hi hU k2 hk2
      obtain ⟨rfl, hU⟩ := hU
      have hrU : U.1 8 0 = nI nr := by rw [hU.2.1 8 0 (by omega)]; exact h
      have hb1 : j * nr + i < nr * nr := by
        have : (j + 1) * nr ≤ nr * nr := Nat.mul_le_mul_right _ (by omega)
        rw [Nat.succ_mul] at this
        omega
      have hidx : fn + (nr * j + i) < sz := hf _ (by rw [Nat.mul_comm]; exact hb1)
      have hq : (64 : Int32) * nI k + nI fn + nI nr * nI j + nI i = nI (64 * k + (fn + nr * j + i)) := by
        rw [show (64 : Int32) = nI 64 from rfl, pk_mul, pk_mul, nI_add, nI_add, nI_add]
        congr 1
        omega
      unfold b_X8_draw_148
      rw [hrU, if_neg (nI_ge hi (by omega)), hq, ux_ibn (by omega : 64 * k + (fn + nr * j + i) < 256) (by omega), gdt, ix8 (by omega) (by omega), ux_ibn (by omega : 8 * j + i < 64) (by omega), gdt, nI_clamp (by omega), nI_clamp (by omega), nI_1, hU.1, hcell _ (by omega)]
      refine hk2 _ _ ⟨rfl, hU.up (j := j) (i := i) (by omega) (fun a b ha hb => ?_)⟩
      by_cases q1 : a = j <;> by_cases q2 : b = i <;> by_cases q3 : b < i <;> simp [q1, q2, q3] <;> omega
    · intro x U hU k2
      obtain ⟨rfl, hU⟩ := hU
      have hrU : U.1 8 0 = nI nr := by rw [hU.2.1 8 0 (by omega)]; exact h
      unfold b_X8_draw_148
      rw [hrU, if_pos (nI_le (Nat.le_refl _) (by omega)), nI_1]
      refine hkk _ (hU.cong (fun a b ha hb => ?_))
      by_cases q1 : a = j <;> by_cases q2 : a < j <;> by_cases q3 : b < nr <;> simp [q1, q2, q3] <;> omega
  · intro T hT kk
    have hrT : T.1 8 0 = nI nr := by rw [hT.2.1 8 0 (by omega)]; exact h
    unfold b_X8_draw_136
    rw [hrT, if_pos (nI_le (Nat.le_refl _) (by omega))]
    exact ⟨T, rfl, hT⟩
