/-! meters: what is known -/
abbrev KV : Type := (Nat → Bool) × (Nat → Int32)
def ex (c : Nat → Bool) (n : Nat) : Bool := decide (0 < fb_ct c n)
theorem ex_t {c : Nat → Bool} {n : Nat} : ex c n = true ↔ ∃ k, k < n ∧ c k = true := by
  unfold ex; rw [decide_eq_true_eq]; exact fb_ct_pos
theorem ex_f {c : Nat → Bool} {n : Nat} : ex c n = false ↔ ∀ k, k < n → c k = false := by
  constructor
  · intro h k hk
    cases hc : c k with
    | false => rfl
    | true => rw [ex_t.mpr ⟨k, hk, hc⟩] at h; cases h
  · intro h
    cases hc : ex c n with
    | false => rfl
    | true => obtain ⟨k, hk, h2⟩ := ex_t.mp hc; rw [h k hk] at h2; cases h2
theorem ex_cong {c d : Nat → Bool} {n : Nat} (h : ∀ k, k < n → c k = d k) : ex c n = ex d n := by
  unfold ex; rw [fb_ct_cong h]
def sm1 (c : Nat → Bool) (V : Nat → Int32) (n : Nat) : Int32 := bx_sum (fun k => if c k then V k else 0) n
theorem bx_cong {f g : Nat → Int32} : ∀ n, (∀ k, k < n → f k = g k) → bx_sum f n = bx_sum g n
  | 0, _ => rfl
  | n + 1, h => by show bx_sum f n + f n = bx_sum g n + g n; rw [bx_cong n (fun k hk => h k (by omega)), h n (by omega)]
theorem bx_zero : ∀ n, bx_sum (fun _ => 0) n = 0
  | 0 => rfl
  | n + 1 => by show bx_sum (fun _ => 0) n + 0 = 0; rw [bx_zero n]; rfl
def cP (ab : Nat → Int32) (P X : Int32) (k : Nat) : Bool := decide (ab k = P) && !decide (nI k = X)
def inf (ab : Nat → Int32) (nt : Nat) (s : KV) (m : Nat) : Option Int32 :=
  if s.1 m = true then none else
  if (ex (cP ab (nI m) (-4)) nt && !ex (fun k => cP ab (nI m) (-4) k && !s.1 k) nt) = true then some (sm1 (cP ab (nI m) (-4)) s.2 nt) else
  if (!decide (ab m = -4) && (s.1 (tn (ab m)) && !ex (fun k => cP ab (ab m) (nI m) k && !s.1 k) nt)) = true then some (s.2 (tn (ab m)) - sm1 (cP ab (ab m) (nI m)) s.2 nt) else none
def ap (s : KV) (m : Nat) (v : Int32) : KV := (fun k => if k = m then true else s.1 k, upd s.2 m v)
def rd (ab : Nat → Int32) (nt : Nat) (s : KV) : Nat → KV × Bool
  | 0 => (s, false)
  | m + 1 => match inf ab nt (rd ab nt s m).1 m with
    | none => rd ab nt s m
    | some v => (ap (rd ab nt s m).1 m v, true)
def fx (ab : Nat → Int32) (nt : Nat) : Nat → KV → KV
  | 0, s => s
  | j + 1, s => if (rd ab nt s nt).2 = true then fx ab nt j (rd ab nt s nt).1 else (rd ab nt s nt).1
def bi (b : Bool) : Int32 := if b then 1 else 0
theorem bi0 (b : Bool) : (bi b = 0) = (b = false) := by cases b <;> simp [bi]
theorem bi_zb (b : Bool) : ux_zb (bi b) = true := by cases b <;> decide
def abok (ab : Nat → Int32) (nt : Nat) : Prop := ∀ m, m < nt → ab m = -4 ∨ ∃ g, g < m ∧ ab m = nI g
def hC (S : ux_S) (nt : Nat) (s : KV) (T : ux_S) : Prop := T.2 = S.2 ∧ (∀ i k, i ≠ 52 → i ≠ 53 → T.1 i k = S.1 i k) ∧ ∀ m, m < nt → T.1 52 m = bi (s.1 m) ∧ T.1 53 m = s.2 m
section MC
variable {n : Nat} {S T : ux_S} {nt : Nat} {s : KV}
theorem c_low {ab : Nat → Int32} (ha : abok ab nt) {p k : Nat} (hp : p < nt) (hn : nt ≤ 12) (hk : k ≤ p) (X : Int32) : cP ab (nI p) X k = false := by
  unfold cP
  rcases ha k (by omega) with e | ⟨g, hg, e⟩
  · have : ¬ (-4 : Int32) = nI p := fun q => nI_nm4 (by omega) q.symm
    rw [e]; simp [this]
  · have : ¬ nI g = nI p := by rw [nI_eq (by omega) (by omega)]; omega
    rw [e]; simp [this]
theorem t_hasUnder (hn : 20 ≤ n) (h : RMet S nt) (hT : hC S nt s T) {p : Nat} (hp : p < nt) : f_X3_hasUnder n T (nI p) = some (bi (ex (cP (S.1 49) (nI p) (-4)) nt), T) := by
  obtain ⟨g0, g1, g2, g3, g4⟩ := h
  have ha : abok (S.1 49) nt := fun m hm => (g3 m hm).2.1
  have r5 : T.1 7 5 = nI nt := by rw [hT.2.1 7 5 (by omega) (by omega)]; exact g1
  unfold f_X3_hasUnder
  rw [nI_1]
  have key : ∀ t m, m ≤ nt → nt < m + t → (∀ k, k < m → cP (S.1 49) (nI p) (-4) k = false) → ux_lp1 (b_X3_hasUnder_4 n (nI p)) t (nI m) T = some (bi (ex (cP (S.1 49) (nI p) (-4)) nt), T) := by
    intro t
    induction t with
    | zero => intro m h1 h2; omega
    | succ t ih =>
      intro m h1 h2 h3
      show b_X3_hasUnder_4 n (nI p) (ux_lp1 (b_X3_hasUnder_4 n (nI p)) t) (nI m) T = _
      generalize ux_lp1 (b_X3_hasUnder_4 n (nI p)) t = K at ih ⊢
      unfold b_X3_hasUnder_4
      rw [r5]
      by_cases hm : m < nt
      · have hne : ¬ nI m = -4 := nI_nm4 (by omega)
        rw [if_neg (nI_ge hm (by omega)), ux_ibn (by omega : m < 12) (by omega), gdt, nI_clamp (by omega), hT.2.1 49 m (by omega) (by omega), nI_1]
        by_cases q : S.1 49 m = nI p
        · have : ex (cP (S.1 49) (nI p) (-4)) nt = true := ex_t.mpr ⟨m, hm, by unfold cP; simp [q, hne]⟩
          rw [if_pos q, this]; rfl
        · rw [if_neg q]
          refine ih (m + 1) (by omega) (by omega) (fun k hk => ?_)
          by_cases e : k = m
          · subst e; unfold cP; simp [q]
          · exact h3 k (by omega)
      · have : m = nt := by omega
        subst this
        rw [if_pos (nI_le (Nat.le_refl _) (by omega)), ex_f.mpr h3]; rfl
  exact key n (p + 1) (by omega) (by omega) (fun k hk => c_low ha hp g0 (by omega) _)
theorem t_allK (hn : 20 ≤ n) (h : RMet S nt) (hT : hC S nt s T) {p : Nat} (hp : p < nt) (X : Int32) : f_X3_allKnownUnder n T (nI p) X = some (bi (!ex (fun k => cP (S.1 49) (nI p) X k && !s.1 k) nt), T) := by
  obtain ⟨g0, g1, g2, g3, g4⟩ := h
  have ha : abok (S.1 49) nt := fun m hm => (g3 m hm).2.1
  have r5 : T.1 7 5 = nI nt := by rw [hT.2.1 7 5 (by omega) (by omega)]; exact g1
  unfold f_X3_allKnownUnder
  rw [nI_1]
  have key : ∀ t m, m ≤ nt → nt < m + t → (∀ k, k < m → (cP (S.1 49) (nI p) X k && !s.1 k) = false) → ux_lp1 (b_X3_allKnownUnder_4 n (nI p) X) t (nI m) T = some (bi (!ex (fun k => cP (S.1 49) (nI p) X k && !s.1 k) nt), T) := by
    intro t
    induction t with
    | zero => intro m h1 h2; omega
    | succ t ih =>
      intro m h1 h2 h3
      show b_X3_allKnownUnder_4 n (nI p) X (ux_lp1 (b_X3_allKnownUnder_4 n (nI p) X) t) (nI m) T = _
      generalize ux_lp1 (b_X3_allKnownUnder_4 n (nI p) X) t = K at ih ⊢
      unfold b_X3_allKnownUnder_4
      rw [r5]
      by_cases hm : m < nt
      · rw [if_neg (nI_ge hm (by omega)), ux_ibn (by omega : m < 12) (by omega), gdt, gdt, nI_clamp (by omega), hT.2.1 49 m (by omega) (by omega), nI_1, (hT.2.2 m hm).1]
        have go : (cP (S.1 49) (nI p) X m && !s.1 m) = false → K (nI (m + 1)) T = some (bi (!ex (fun k => cP (S.1 49) (nI p) X k && !s.1 k) nt), T) := by
          intro q
          refine ih (m + 1) (by omega) (by omega) (fun k hk => ?_)
          by_cases e : k = m
          · subst e; exact q
          · exact h3 k (by omega)
        by_cases q : S.1 49 m = nI p
        · rw [if_pos q]
          by_cases q2 : nI m = X
          · rw [if_pos q2]; exact go (by unfold cP; simp [q2])
          · rw [if_neg q2]
            cases hk : s.1 m with
            | false =>
              have : ex (fun k => cP (S.1 49) (nI p) X k && !s.1 k) nt = true := ex_t.mpr ⟨m, hm, by unfold cP; simp [q, q2, hk]⟩
              rw [if_pos (by rfl), this]; rfl
            | true => rw [if_neg (by decide)]; exact go (by simp [hk])
        · rw [if_neg q]; exact go (by unfold cP; simp [q])
      · have : m = nt := by omega
        subst this
        rw [if_pos (nI_le (Nat.le_refl _) (by omega)), ex_f.mpr h3]; rfl
  exact key n (p + 1) (by omega) (by omega) (fun k hk => by rw [c_low ha hp g0 (by omega) _]; rfl)
theorem sm1_low {ab : Nat → Int32} (ha : abok ab nt) {p : Nat} (hp : p < nt) (hn : nt ≤ 12) (X : Int32) (V : Nat → Int32) : sm1 (cP ab (nI p) X) V (p + 1) = 0 := by
  unfold sm1
  rw [bx_cong (g := fun _ => 0) (p + 1) (fun k hk => by rw [c_low ha hp hn (by omega) X]; rfl), bx_zero]
theorem t_sumU (hn : 20 ≤ n) (h : RMet S nt) (hT : hC S nt s T) {p : Nat} (hp : p < nt) (X : Int32) : f_X3_sumUnder n T (nI p) X = some (sm1 (cP (S.1 49) (nI p) X) s.2 nt, T) := by
  obtain ⟨g0, g1, g2, g3, g4⟩ := h
  have ha : abok (S.1 49) nt := fun m hm => (g3 m hm).2.1
  have r5 : T.1 7 5 = nI nt := by rw [hT.2.1 7 5 (by omega) (by omega)]; exact g1
  unfold f_X3_sumUnder
  rw [nI_1]
  refine ux_lpi2 (b := b_X3_sumUnder_7 n (nI p) X) nt (fun m x U => x = sm1 (cP (S.1 49) (nI p) X) s.2 m ∧ U = T) (fun o => o = some (sm1 (cP (S.1 49) (nI p) X) s.2 nt, T)) ?_ ?_ n (p + 1) 0 T (by omega) (by omega) ⟨(sm1_low ha hp g0 X s.2).symm, rfl⟩
  · intro m x U hm hI k hk
    obtain ⟨rfl, rfl⟩ := hI
    have nxt : sm1 (cP (S.1 49) (nI p) X) s.2 (m + 1) = sm1 (cP (S.1 49) (nI p) X) s.2 m + (if cP (S.1 49) (nI p) X m then s.2 m else 0) := rfl
    unfold b_X3_sumUnder_7
    rw [r5, if_neg (nI_ge hm (by omega)), ux_ibn (by omega : m < 12) (by omega), gdt, gdt, nI_clamp (by omega), hT.2.1 49 m (by omega) (by omega), nI_1, (hT.2.2 m hm).2]
    by_cases q : S.1 49 m = nI p
    · rw [if_pos q]
      by_cases q2 : nI m = X
      · rw [if_pos q2]
        refine hk _ _ ⟨?_, rfl⟩
        rw [nxt, if_neg (by unfold cP; simp [q2]), Int32.add_zero]
      · rw [if_neg q2]
        refine hk _ _ ⟨?_, rfl⟩
        rw [nxt, if_pos (by unfold cP; simp [q, q2])]
    · rw [if_neg q]
      refine hk _ _ ⟨?_, rfl⟩
      rw [nxt, if_neg (by unfold cP; simp [q]), Int32.add_zero]
  · intro x U hI k
    obtain ⟨rfl, rfl⟩ := hI
    unfold b_X3_sumUnder_7
    rw [r5, if_pos (nI_le (Nat.le_refl _) (by omega))]
theorem hC_ap (hT : hC S nt s T) {m : Nat} (v : Int32) : hC S nt (ap s m v) (ux_i (ux_i T 53 m v) 52 m 1) := by
  refine ⟨hT.1, fun i k h1 h2 => ?_, fun k hk => ?_⟩
  · rw [rd_ne h1, rd_ne h2]; exact hT.2.1 i k h1 h2
  · rw [rd_if, rd_ne (by decide), rd_ne (by decide), rd_if]
    unfold ap
    by_cases q : k = m
    · subst q; simp [bi, upd]
    · simp only [q, if_false, upd]; exact hT.2.2 k hk
end MC
