section MD
variable {n : Nat} {S T : ux_S} {nt : Nat} {s : KV}
theorem t_below (hn : 20 ≤ n) (h : RMet S nt) (hT : hC S nt s T) {m : Nat} (hm : m < nt) : f_X3_inferFromBelow n T (nI m) = if (ex (cP (S.1 49) (nI m) (-4)) nt && !ex (fun k => cP (S.1 49) (nI m) (-4) k && !s.1 k) nt) = true then some (1, ux_i T 53 m (sm1 (cP (S.1 49) (nI m) (-4)) s.2 nt)) else some (0, T) := by
  have g0 := h.1
  unfold f_X3_inferFromBelow
  rw [t_hasUnder hn h hT hm, ux_bi_s, t_allK hn h hT hm, ux_bi_s, t_sumU hn h hT hm, ux_bi_s, ux_ibn (by omega : m < 12) (by omega), gdt, nI_clamp (by omega)]
  cases ex (cP (S.1 49) (nI m) (-4)) nt
  · rfl
  · cases ex (fun k => cP (S.1 49) (nI m) (-4) k && !s.1 k) nt <;> rfl
theorem t_above (hn : 20 ≤ n) (h : RMet S nt) (hT : hC S nt s T) {m : Nat} (hm : m < nt) : f_X3_inferFromAbove n T (nI m) = if (!decide (S.1 49 m = -4) && (s.1 (tn (S.1 49 m)) && !ex (fun k => cP (S.1 49) (S.1 49 m) (nI m) k && !s.1 k) nt)) = true then some (1, ux_i T 53 m (s.2 (tn (S.1 49 m)) - sm1 (cP (S.1 49) (S.1 49 m) (nI m)) s.2 nt)) else some (0, T) := by
  obtain ⟨g0, g1, g2, g3, g4⟩ := id h
  have r5 : T.1 7 5 = nI nt := by rw [hT.2.1 7 5 (by omega) (by omega)]; exact g1
  unfold f_X3_inferFromAbove
  rw [ux_ibn (by omega : m < 12) (by omega), gdt, nI_clamp (by omega), hT.2.1 49 m (by omega) (by omega), t_has3 r5, ux_bi_s]
  rcases (g3 m hm).2.1 with e | ⟨g, hg, e⟩
  · rw [e, t_hsm4 nt (by omega), if_pos rfl, if_neg (by simp)]
  · have hne : ¬ nI g = -4 := nI_nm4 (by omega)
    have htn : tn (nI g) = g := nI_clamp (by omega)
    rw [e, hs_nI (by omega) (by omega), if_neg (by decide), ux_ibn (by omega : g < 12) (by omega)]
    simp only [gdt, htn]
    rw [nI_clamp (by omega), (hT.2.2 g (by omega)).1, t_allK hn h hT (by omega : g < nt), ux_bi_s, t_sumU hn h hT (by omega : g < nt), ux_bi_s, (hT.2.2 g (by omega)).2]
    cases s.1 g
    · rw [if_pos (by rfl), if_neg (by simp)]
    · rw [if_neg (by decide)]
      cases ex (fun k => cP (S.1 49) (nI g) (nI m) k && !s.1 k) nt
      · rw [if_neg (by decide), if_pos (by simp [hne])]
      · rw [if_pos (by decide), if_neg (by simp)]
theorem t_once (hn : 20 ≤ n) (h : RMet S nt) (hT : hC S nt s T) : ∃ U, f_X3_inferOnce n T = some (bi (rd (S.1 49) nt s nt).2, U) ∧ hC S nt (rd (S.1 49) nt s nt).1 U := by
  obtain ⟨g0, g1, g2, g3, g4⟩ := id h
  unfold f_X3_inferOnce
  refine ux_lpi2 (b := b_X3_inferOnce_4 n) nt (fun m x U => x = bi (rd (S.1 49) nt s m).2 ∧ hC S nt (rd (S.1 49) nt s m).1 U) (fun o => ∃ U, o = some (bi (rd (S.1 49) nt s nt).2, U) ∧ hC S nt (rd (S.1 49) nt s nt).1 U) ?_ ?_ n 0 _ T (by omega) (by omega) ⟨rfl, hT⟩
  · intro m x U hm hI k hk
    obtain ⟨rfl, hU⟩ := hI
    have r5 : U.1 7 5 = nI nt := by rw [hU.2.1 7 5 (by omega) (by omega)]; exact g1
    have hc := nI_clamp (n := m) (by omega)
    unfold b_X3_inferOnce_4 b_X3_inferOnce_37
    rw [r5, if_neg (nI_ge hm (by omega)), ux_ibn (by omega : m < 12) (by omega)]
    simp only [gdt]
    rw [hc, (hU.2.2 m hm).1, nI_1]
    have nxt : rd (S.1 49) nt s (m + 1) = match inf (S.1 49) nt (rd (S.1 49) nt s m).1 m with
      | none => rd (S.1 49) nt s m
      | some v => (ap (rd (S.1 49) nt s m).1 m v, true) := rfl
    have stay : inf (S.1 49) nt (rd (S.1 49) nt s m).1 m = none → ∀ V, V = U → ∃ W, k (bi (rd (S.1 49) nt s m).2) (nI (m + 1)) V = some (bi (rd (S.1 49) nt s nt).2, W) ∧ hC S nt (rd (S.1 49) nt s nt).1 W := by
      intro e V hV
      rw [e] at nxt
      subst hV
      exact hk _ _ ⟨by rw [nxt], by rw [nxt]; exact hU⟩
    have go : ∀ v, inf (S.1 49) nt (rd (S.1 49) nt s m).1 m = some v → ∃ W, k 1 (nI (m + 1)) (ux_i (ux_i U 53 m v) 52 m 1) = some (bi (rd (S.1 49) nt s nt).2, W) ∧ hC S nt (rd (S.1 49) nt s nt).1 W := by
      intro v e
      rw [e] at nxt
      exact hk _ _ ⟨by rw [nxt]; rfl, by rw [nxt]; exact hC_ap hU v⟩
    have hinf : inf (S.1 49) nt (rd (S.1 49) nt s m).1 m = inf (S.1 49) nt (rd (S.1 49) nt s m).1 m := rfl
    generalize (rd (S.1 49) nt s m).1 = r at *
    cases hk1 : r.1 m with
    | true =>
      rw [if_neg (by decide)]
      exact stay (by unfold inf; rw [if_pos hk1]) U rfl
    | false =>
      rw [if_pos (by rfl), t_below hn h hU hm]
      have hk2 : ¬ r.1 m = true := by rw [hk1]; decide
      by_cases q : (ex (cP (S.1 49) (nI m) (-4)) nt && !ex (fun k => cP (S.1 49) (nI m) (-4) k && !r.1 k) nt) = true
      · rw [if_pos q, ux_bi_s, if_neg (by decide), ux_nar1]
        exact go _ (by unfold inf; rw [if_neg hk2, if_pos q])
      · rw [if_neg q, ux_bi_s, if_pos rfl, t_above hn h hU hm]
        by_cases q2 : (!decide (S.1 49 m = -4) && (r.1 (tn (S.1 49 m)) && !ex (fun k => cP (S.1 49) (S.1 49 m) (nI m) k && !r.1 k) nt)) = true
        · rw [if_pos q2, ux_bi_s, if_neg (by decide), ux_nar1]
          exact go _ (by unfold inf; rw [if_neg hk2, if_neg q, if_pos q2])
        · rw [if_neg q2, ux_bi_s, if_pos rfl]
          exact stay (by unfold inf; rw [if_neg hk2, if_neg q, if_neg q2]) U rfl
  · intro x U hI k
    obtain ⟨rfl, hU⟩ := hI
    have r5 : U.1 7 5 = nI nt := by rw [hU.2.1 7 5 (by omega) (by omega)]; exact g1
    unfold b_X3_inferOnce_4
    rw [r5, if_pos (nI_le (Nat.le_refl _) (by omega)), bi_zb, gdt]
    exact ⟨U, rfl, hU⟩
end MD
/-! how many rounds -/
def ck (nt : Nat) (s : KV) : Nat := fb_ct s.1 nt
theorem inf_new {ab : Nat → Int32} {nt m : Nat} {s : KV} {v : Int32} (h : inf ab nt s m = some v) : s.1 m = false := by
  unfold inf at h
  cases hk : s.1 m with
  | false => rfl
  | true => rw [if_pos hk] at h; cases h
theorem ck_ap {nt m : Nat} {s : KV} {v : Int32} (hm : m < nt) (h : s.1 m = false) : ck nt (ap s m v) = ck nt s + 1 := by
  have := fb_ct_upd s.1 true (i := m) (n := nt) hm
  rw [if_neg (by rw [h]; decide), if_pos rfl] at this
  exact this
theorem rd_ck {ab : Nat → Int32} {nt : Nat} {s : KV} : ∀ m, m ≤ nt → ck nt s ≤ ck nt (rd ab nt s m).1 ∧ ((rd ab nt s m).2 = true → ck nt s < ck nt (rd ab nt s m).1)
  | 0, _ => ⟨Nat.le_refl _, fun h => by cases h⟩
  | m + 1, hm => by
    have ih := rd_ck (ab := ab) (nt := nt) (s := s) m (by omega)
    have nxt : rd ab nt s (m + 1) = match inf ab nt (rd ab nt s m).1 m with
      | none => rd ab nt s m
      | some v => (ap (rd ab nt s m).1 m v, true) := rfl
    cases e : inf ab nt (rd ab nt s m).1 m with
    | none => rw [e] at nxt; rw [nxt]; exact ih
    | some v =>
      rw [e] at nxt
      rw [nxt]
      have h2 := ck_ap (v := v) (by omega : m < nt) (inf_new e)
      show ck nt s ≤ ck nt (ap _ m v) ∧ (_ → ck nt s < ck nt (ap _ m v))
      rw [h2]
      exact ⟨by omega, fun _ => by omega⟩
theorem fx_stab {ab : Nat → Int32} {nt : Nat} : ∀ j j' s, nt < ck nt s + j → nt < ck nt s + j' → fx ab nt j s = fx ab nt j' s
  | 0, j', s, h, _ => by have : ck nt s ≤ nt := fb_ct_le _ _; omega
  | j + 1, 0, s, _, h => by have : ck nt s ≤ nt := fb_ct_le _ _; omega
  | j + 1, j' + 1, s, h1, h2 => by
    unfold fx
    by_cases q : (rd ab nt s nt).2 = true
    · rw [if_pos q, if_pos q]
      have := (rd_ck (ab := ab) (s := s) nt (Nat.le_refl _)).2 q
      exact fx_stab j j' _ (by omega) (by omega)
    · rw [if_neg q, if_neg q]
/-! the class: infer -/
def kv0 (S : ux_S) : KV := (fun m => decide (S.1 50 m = 1), S.1 51)
theorem t_infer {n : Nat} (hn : 20 ≤ n) {S : ux_S} {nt : Nat} (h : RMet S nt) : ∃ U, f_X3_infer n S = some U ∧ hC S nt (fx (S.1 49) nt (nt + 1) (kv0 S)) U := by
  obtain ⟨g0, g1, g2, g3, g4⟩ := id h
  unfold f_X3_infer
  refine ux_lpi1 (b := b_X3_infer_2 n) nt (fun m U => U.2 = S.2 ∧ (∀ i k, i ≠ 52 → i ≠ 53 → U.1 i k = S.1 i k) ∧ ∀ k, k < m → U.1 52 k = bi ((kv0 S).1 k) ∧ U.1 53 k = (kv0 S).2 k) (fun o => ∃ U, o = some U ∧ hC S nt (fx (S.1 49) nt (nt + 1) (kv0 S)) U) ?_ ?_ n 0 S (by omega) (by omega) ⟨rfl, fun _ _ _ _ => rfl, fun k hk => absurd hk (by omega)⟩
  · intro m U hm hU k hk
    have r5 : U.1 7 5 = nI nt := by rw [hU.2.1 7 5 (by omega) (by omega)]; exact g1
    have hv : vp_nar .boolean (S.1 50 m) = bi ((kv0 S).1 m) := by
      rcases (g4 m (by omega)).1 with q | q <;> (unfold kv0; simp only [q]; decide)
    unfold b_X3_infer_2
    rw [r5, if_neg (nI_ge hm (by omega)), ux_ibn (by omega : m < 12) (by omega), gdt, gdt, gdt, gdt, nI_clamp (by omega), nI_1, hU.2.1 50 m (by omega) (by omega), hv, rd_ne (by decide), hU.2.1 51 m (by omega) (by omega)]
    refine hk _ ⟨hU.1, fun i q h1 h2 => ?_, fun q hq => ?_⟩
    · rw [rd_ne h2, rd_ne h1]; exact hU.2.1 i q h1 h2
    · rw [rd_ne (by decide), rd_if, rd_if, rd_ne (by decide)]
      by_cases e : q = m
      · subst e; rw [if_pos rfl, if_pos rfl]; exact ⟨rfl, rfl⟩
      · rw [if_neg e, if_neg e]; exact hU.2.2 q (by omega)
  · intro U hU k
    have r5 : U.1 7 5 = nI nt := by rw [hU.2.1 7 5 (by omega) (by omega)]; exact g1
    unfold b_X3_infer_2
    rw [r5, if_pos (nI_le (Nat.le_refl _) (by omega))]
    have hU2 : hC S nt (kv0 S) U := hU
    generalize kv0 S = s0 at hU2 ⊢
    have key : ∀ t r s T, nt + 1 < r + t → r ≤ ck nt s → hC S nt s T → ∃ Z, ux_lp2 (b_X3_infer_44 n) t 1 (nI r) T = some Z ∧ hC S nt (fx (S.1 49) nt (nt + 1 - r) s) Z := by
      intro t
      induction t with
      | zero =>
        intro r s T h1 h2
        have : ck nt s ≤ nt := fb_ct_le _ _
        omega
      | succ t ih =>
        intro r s T h1 h2 hT
        have hck : ck nt s ≤ nt := fb_ct_le _ _
        have r5 : T.1 7 5 = nI nt := by rw [hT.2.1 7 5 (by omega) (by omega)]; exact g1
        show ∃ Z, b_X3_infer_44 n (ux_lp2 (b_X3_infer_44 n) t) 1 (nI r) T = some Z ∧ _
        obtain ⟨V, v1, v2⟩ := t_once hn h hT
        have hrk := rd_ck (ab := S.1 49) (s := s) nt (Nat.le_refl _)
        have hend : ∀ T2 : ux_S, ∃ t2, t = t2 + 1 := fun _ => ⟨t - 1, by omega⟩
        unfold b_X3_infer_44
        rw [if_neg (by decide), r5, if_neg (nI_nlt (by omega) (by omega)), v1, ux_bi_s, nI_1, show nt + 1 - r = (nt + 1 - (r + 1)) + 1 by omega]
        unfold fx
        cases hb : (rd (S.1 49) nt s nt).2 with
        | true =>
          rw [if_pos rfl]
          have := hrk.2 hb
          exact ih (r + 1) _ V (by omega) (by omega) v2
        | false =>
          rw [if_neg (by decide)]
          obtain ⟨t2, rfl⟩ := hend V
          refine ⟨V, ?_, v2⟩
          show b_X3_infer_44 n (ux_lp2 (b_X3_infer_44 n) t2) (bi false) (nI (r + 1)) V = _
          unfold b_X3_infer_44
          rw [if_pos (by rfl)]
    exact key n 0 _ U (by omega) (by omega) hU2
