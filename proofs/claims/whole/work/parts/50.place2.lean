/-! placings: the class -/
def PP (S : ux_S) (r : Nat) : Nat := tn (S.1 12 r)
def ppl (S : ux_S) (k : Nat) : Nat := tn (S.1 24 k)
def pml (S : ux_S) (k : Nat) : Nat := tn (S.1 23 k)
def psh (S : ux_S) (j i : Nat) : Nat := tn (S.1 (14 + j) i)
abbrev pok (S : ux_S) : Nat → RW → Bool := okA (PP S) (ppl S)
abbrev pgv (S : ux_S) (nr : Nat) : RW → Nat → Nat → Nat := gvn (GV S nr) (pml S) (psh S)
abbrev pW (S : ux_S) (nr nm av fv : Nat) (row : RW) : Nat := WG av fv nr (pgv S nr row nm)
theorem PP_is {S : ux_S} {nr r : Nat} (h : RHall S nr) (hr : r < nr) : S.1 12 r = nI (PP S r) ∧ PP S r ≤ 20 := by
  have := tn_rg (h.2.2.2.1 r hr).2.2.2.2 (by decide)
  exact ⟨this.1, by unfold PP; omega⟩
theorem ppl_is {S : ux_S} {nm k : Nat} (h : RMach S nm) (hk : k < nm) : S.1 24 k = nI (ppl S k) ∧ 1 ≤ ppl S k ∧ ppl S k ≤ 10 := by
  have := tn_rg (h.2.2.2 k hk).2.2 (by decide)
  exact ⟨this.1, by unfold ppl; omega, by unfold ppl; omega⟩
theorem pml_is {S : ux_S} {nm k : Nat} (h : RMach S nm) (hk : k < nm) : S.1 23 k = nI (pml S k) ∧ pml S k ≤ 300 := by
  have := tn_rg (h.2.2.2 k hk).1.2 (by decide)
  exact ⟨this.1, by unfold pml; omega⟩
theorem psh_is {S : ux_S} {nr j i : Nat} (h : RHall S nr) (hj : j < 8) (hi : i < 8) : S.1 (14 + j) i = nI (psh S j i) ∧ psh S j i ≤ 200 := by
  have := tn_rg (h.2.2.2.2.1 j i hj hi).2 (by decide)
  exact ⟨this.1, by unfold psh; omega⟩
theorem pgv_le {S : ux_S} {nr nm m j : Nat} {row : RW} (h : RHall S nr) (h3 : RMach S nm) (hm : m ≤ nm) (hj : j < 8) (hr : ∀ k, k < m → row k < nr) : pgv S nr row m j ≤ 1900000 := by
  have h1 := GV_le h hj
  have h5 := h3.1
  have h8 := h.1
  have h2 : fb_sm (fun k => pml S k * psh S j (row k)) m ≤ m * 60000 := fb_sm_bound (fun k hk => by
    have a := (pml_is h3 (by omega : k < nm)).2
    have b := (psh_is h hj (by have := hr k hk; omega : row k < 8)).2
    calc pml S k * psh S j (row k) ≤ 300 * 200 := Nat.mul_le_mul a b
      _ = 60000 := by decide)
  show GV S nr j + fb_sm (fun k => pml S k * psh S j (row k)) m ≤ _
  omega
theorem t_greatest {n : Nat} (hn : 10 ≤ n) {T : ux_S} {nr m av fv : Nat} {g : Nat → Nat} (h : RHall T nr) (ha : T.1 1 6 = nI av) (hf : T.1 1 7 = nI fv) (hfb : 1 ≤ fv ∧ fv ≤ 5) (hm : m ≤ 5) (hg : ∀ j, j < nr → T.1 (29 + m) j = nI (g j) ∧ g j ≤ 1900000) : f_X4_greatest n T (nI m) = some (nI (WG av fv nr g), T) := by
  have h8 := h.1
  unfold f_X4_greatest
  have ml : ∀ k, k ≤ nr → mx g k ≤ 1900000 := fun k hk => mx_le k (fun j hj => (hg j (by omega)).2)
  refine ux_lpi2 (b := b_X4_greatest_5 n (nI m)) nr (fun k x U => x = nI (mx g k) ∧ U = T) (fun o => o = some (nI (WG av fv nr g), T)) ?_ ?_ n 0 0 T (by omega) (by omega) ⟨rfl, rfl⟩
  · intro k x U hk hI K hK
    obtain ⟨rfl, rfl⟩ := hI
    have a1 := ml k (by omega)
    have a2 := hg k hk
    unfold b_X4_greatest_5
    rw [h.2.1, if_neg (nI_ge hk (by omega)), ux_ibn (by omega : m < 6) (by omega), gdt, ux_ibn (by omega : k < 8) (by omega), gdt, nI_clamp (by omega), nI_clamp (by omega), show 28 + 1 + m = 29 + m by omega, a2.1, nI_1]
    refine hK _ _ ⟨?_, rfl⟩
    conv => rhs; unfold mx
    by_cases q : mx g k < g k
    · rw [if_pos (nI_lt q (by omega)), if_pos q]
    · rw [if_neg (nI_nlt (by omega) (by omega)), if_neg q]
  · intro x U hI K
    obtain ⟨rfl, rfl⟩ := hI
    have a1 := ml nr (Nat.le_refl _)
    unfold b_X4_greatest_5
    rw [h.2.1, if_pos (nI_le (Nat.le_refl _) (by omega)), hf, t_divUp U (by omega) (by omega), ux_bi_s, ha, show (1000 : Int32) = nI 1000 from rfl, pk_mul, nI_add]
    rfl
theorem t_giveOff {n : Nat} (hn : 10 ≤ n) {T : ux_S} {nr nm m r : Nat} {g : Nat → Nat} (h : RHall T nr) (h3 : RMach T nm) (hm : m < nm) (hr : r < nr) (hg : ∀ j, j < nr → T.1 (29 + m) j = nI (g j)) : ∃ U, f_X4_giveOff n T (nI m) (nI r) = some U ∧ (U.2 = T.2 ∧ ∀ i k, i ≠ 29 + (m + 1) → U.1 i k = T.1 i k) ∧ ∀ j, j < nr → U.1 (29 + (m + 1)) j = nI (g j + pml T m * psh T j r) := by
  have h8 := h.1
  have h5 := h3.1
  unfold f_X4_giveOff
  refine ux_lpi1 (b := b_X4_giveOff_3 n (nI m) (nI r)) nr (fun k U => (U.2 = T.2 ∧ ∀ i k, i ≠ 29 + (m + 1) → U.1 i k = T.1 i k) ∧ ∀ j, j < k → U.1 (29 + (m + 1)) j = nI (g j + pml T m * psh T j r)) (fun o => ∃ U, o = some U ∧ (U.2 = T.2 ∧ ∀ i k, i ≠ 29 + (m + 1) → U.1 i k = T.1 i k) ∧ ∀ j, j < nr → U.1 (29 + (m + 1)) j = nI (g j + pml T m * psh T j r)) ?_ ?_ n 0 T (by omega) (by omega) ⟨⟨rfl, fun _ _ _ => rfl⟩, fun j hj => by omega⟩
  · intro k U hk hI K hK
    obtain ⟨⟨i1, i2⟩, i3⟩ := hI
    unfold b_X4_giveOff_3
    rw [i2 1 5 (by omega), h.2.1, if_neg (nI_ge hk (by omega)), nI_1, ux_ibn (by omega : m + 1 < 6) (by omega), gdt, ux_ibn (by omega : m < 6) (by omega), gdt, ux_ibn (by omega : k < 8) (by omega), gdt, ux_ibn (by omega : m < 5) (by omega), gdt, gdt, ux_ibn (by omega : r < 8) (by omega), gdt, gdt, nI_clamp (by omega : m + 1 < 2 ^ 31), nI_clamp (by omega : k < 2 ^ 31), nI_clamp (by omega : m < 2 ^ 31), nI_clamp (by omega : r < 2 ^ 31), show 28 + 1 + m = 29 + m by omega, show 28 + 1 + (m + 1) = 29 + (m + 1) by omega, show 13 + 1 + k = 14 + k by omega, i2 (29 + m) k (by omega), i2 23 m (by omega), i2 (14 + k) r (by omega), hg k hk, (pml_is h3 hm).1, (psh_is h (by omega : k < 8) (by omega : r < 8)).1, pk_mul, nI_add, nI_1]
    refine hK _ ⟨⟨i1, fun i q hi => ?_⟩, fun j hj => ?_⟩
    · rw [rd_ne hi]; exact i2 i q hi
    · rw [rd_if]
      by_cases q : j = k
      · subst q; rw [if_pos rfl]
      · rw [if_neg q]; exact i3 j (by omega)
  · intro U hI K
    unfold b_X4_giveOff_3
    rw [hI.1.2 1 5 (by omega), h.2.1, if_pos (nI_le (Nat.le_refl _) (by omega))]
    exact ⟨U, rfl, hI⟩
theorem smMach {S Z : ux_S} {nm : Nat} (h : RMach S nm) (g : sm S Z) : RMach Z nm := h.cong (fun i k q => g.1 i k (by unfold PMach at q; unfold PAll; omega))
theorem smHall' {S Z : ux_S} {nr : Nat} (h : RHall S nr) (g : sm S Z) : RHall Z nr := h.cong (smHall g)
/-- the free places -/
def cF (S : ux_S) (nr m : Nat) (row : RW) (T : ux_S) : Prop := sm S T ∧ ∀ r, r < nr → usd (ppl S) row m r ≤ PP S r ∧ T.1 27 r = nI (PP S r - usd (ppl S) row m r)
theorem usd_s (pl : Nat → Nat) (row : RW) (m r x : Nat) : usd pl (st row m r) (m + 1) x = usd pl row m x + if r = x then pl m else 0 := by
  unfold usd
  rw [fb_sm_succ, st_at, fb_sm_cong (fun k hk => by rw [st_ne (by omega : k ≠ m)])]
theorem usd_m (pl : Nat → Nat) (row : RW) (m r x : Nat) : usd pl (st row m r) m x = usd pl row m x := usd_cong (fun i hi => st_ne (by omega))
theorem t_freeAll {n : Nat} (hn : 10 ≤ n) {S : ux_S} {nr : Nat} (h : RHall S nr) (row : RW) : ∃ Z, f_X4_freeAll n S = some Z ∧ cF S nr 0 row Z := by
  have h8 := h.1
  unfold f_X4_freeAll
  refine ux_lpi1 (b := b_X4_freeAll_2 n) nr (fun k U => sm S U ∧ ∀ r, r < k → U.1 27 r = nI (PP S r)) (fun o => ∃ Z, o = some Z ∧ cF S nr 0 row Z) ?_ ?_ n 0 S (by omega) (by omega) ⟨sm.rf, fun r hr => by omega⟩
  · intro k U hk hI K hK
    have hU := smHall' h hI.1
    unfold b_X4_freeAll_2
    rw [hU.2.1, if_neg (nI_ge hk (by omega)), ux_ibn (by omega : k < 8) (by omega), gdt, gdt, nI_clamp (by omega), nI_1]
    refine hK _ ⟨hI.1.up (by unfold PAll; omega), fun r hr => ?_⟩
    rw [rd_if]
    by_cases q : r = k
    · subst q; rw [if_pos rfl, hI.1.1 12 r (by unfold PAll; omega)]; exact (PP_is h hk).1
    · rw [if_neg q]; exact hI.2 r (by omega)
  · intro U hI K
    have hU := smHall' h hI.1
    unfold b_X4_freeAll_2
    rw [hU.2.1, if_pos (nI_le (Nat.le_refl _) (by omega))]
    exact ⟨U, rfl, hI.1, fun r hr => ⟨Nat.zero_le _, hI.2 r hr⟩⟩
/-- a machine takes its places, and gives them back -/
theorem cF.take {S T : ux_S} {nr nm m r : Nat} {row : RW} (h3 : RMach S nm) (hm : m < nm) (h : cF S nr m row T) (hr : r < nr) (hok : pok S m (st row m r) = true) : cF S nr (m + 1) (st row m r) (ux_i T 27 r (T.1 27 r - T.1 24 m)) := by
  refine ⟨h.1.up (by unfold PAll; omega), fun x hx => ?_⟩
  have h1 := h.2 x hx
  have e24 : T.1 24 m = nI (ppl S m) := by rw [h.1.1 24 m (by unfold PAll; omega)]; exact (ppl_is h3 hm).1
  have hok := of_decide_eq_true hok
  rw [st_at, usd_m] at hok
  rw [usd_s, rd_if]
  by_cases q : x = r
  · subst q
    rw [if_pos rfl, if_pos rfl, e24, h1.2, pk_sub (by omega)]
    exact ⟨by omega, by congr 1; omega⟩
  · rw [if_neg q, if_neg (fun e => q e.symm), Nat.add_zero]
    exact h1
theorem cF.give {S T : ux_S} {nr nm m r : Nat} {row : RW} (h3 : RMach S nm) (hm : m < nm) (h : cF S nr (m + 1) (st row m r) T) (hr : r < nr) : cF S nr m row (ux_i T 27 r (T.1 27 r + T.1 24 m)) := by
  refine ⟨h.1.up (by unfold PAll; omega), fun x hx => ?_⟩
  have h1 := h.2 x hx
  rw [usd_s] at h1
  have e24 : T.1 24 m = nI (ppl S m) := by rw [h.1.1 24 m (by unfold PAll; omega)]; exact (ppl_is h3 hm).1
  rw [rd_if]
  by_cases q : x = r
  · subst q
    rw [if_pos rfl] at h1
    rw [if_pos rfl, e24, h1.2, nI_add]
    exact ⟨by omega, by congr 1; omega⟩
  · rw [if_neg (fun e => q e.symm), Nat.add_zero] at h1
    rw [if_neg q]
    exact h1
theorem cF.ok {S T : ux_S} {nr nm m r : Nat} {row : RW} (h1 : RHall S nr) (h3 : RMach S nm) (hm : m < nm) (h : cF S nr m row T) (hr : r < nr) : (T.1 27 r < T.1 24 m) ↔ pok S m (st row m r) = false := by
  have h5 := h.2 r hr
  have a := (PP_is h1 hr).2
  have b := (ppl_is h3 hm).2
  have e24 : T.1 24 m = nI (ppl S m) := by rw [h.1.1 24 m (by unfold PAll; omega)]; exact (ppl_is h3 hm).1
  rw [e24, h5.2, nI_ltI (by omega) (by omega)]
  unfold pok okA
  rw [st_at, usd_m, decide_eq_false_iff_not]
  omega
theorem t_count {n : Nat} (hn : 10 ≤ n) {S : ux_S} {nr nm : Nat} (h1 : RHall S nr) (h3 : RMach S nm) : ∀ t rr m row T, m + t = nm → t < rr → cF S nr m row T → ∃ Z, f_X4_countFrom_r n rr T (nI m) = some (nI (CN nr (pok S) t m row), Z) ∧ cF S nr m row Z := by
  have h8 := h1.1
  have h5 := h3.1
  intro t
  induction t with
  | zero =>
    intro rr m row T hm hrr hT
    obtain ⟨rr', rfl⟩ : ∃ x, rr = x + 1 := ⟨rr - 1, by omega⟩
    refine ⟨T, ?_, hT⟩
    show fb_X4_countFrom n (f_X4_countFrom_r n rr') T (nI m) = _
    unfold fb_X4_countFrom
    rw [(smMach h3 hT.1).2.1, if_neg (nI_nlt (by omega) (by omega))]
    rfl
  | succ t ih =>
    intro rr m row T hm hrr hT
    obtain ⟨rr', rfl⟩ : ∃ x, rr = x + 1 := ⟨rr - 1, by omega⟩
    show ∃ Z, fb_X4_countFrom n (f_X4_countFrom_r n rr') T (nI m) = some (_, Z) ∧ _
    unfold fb_X4_countFrom
    rw [(smMach h3 hT.1).2.1, if_pos (nI_lt (by omega) (by omega))]
    refine ux_lpi2 (b := b_X4_countFrom_15 n (f_X4_countFrom_r n rr') (nI m)) nr (fun k x U => x = nI (fb_sm (fun r => if pok S m (st row m r) then CN nr (pok S) t (m + 1) (st row m r) else 0) k) ∧ cF S nr m row U) (fun o => ∃ Z, o = some (nI (CN nr (pok S) (t + 1) m row), Z) ∧ cF S nr m row Z) ?_ ?_ n 0 0 T (by omega) (by omega) ⟨rfl, hT⟩
    · intro r x U hr hI K hK
      obtain ⟨rfl, hU⟩ := hI
      have hok := cF.ok h1 h3 (by omega : m < nm) hU hr
      have hHU := smHall' h1 hU.1
      unfold b_X4_countFrom_15
      rw [hHU.2.1, if_neg (nI_ge hr (by omega)), ux_ibn (by omega : r < 8) (by omega), ux_ibn (by omega : m < 5) (by omega)]
      simp only [gdt]
      rw [nI_clamp (by omega : r < 2 ^ 31), nI_clamp (by omega : m < 2 ^ 31), nI_1, nI_1]
      cases q : pok S m (st row m r)
      · rw [if_pos (hok.mpr q)]
        refine hK _ _ ⟨?_, hU⟩
        rw [fb_sm_succ, q]; rfl
      · rw [if_neg (fun e => by rw [hok.mp e] at q; cases q)]
        obtain ⟨Z, z1, z2⟩ := ih rr' (m + 1) (st row m r) _ (by omega) (by omega) (hU.take h3 (by omega) hr q)
        rw [z1, ux_bi_s]
        refine hK _ _ ⟨?_, z2.give h3 (by omega) hr⟩
        rw [fb_sm_succ, q, nI_add]; rfl
    · intro x U hI K
      obtain ⟨rfl, hU⟩ := hI
      have hHU := smHall' h1 hU.1
      unfold b_X4_countFrom_15
      rw [hHU.2.1, if_pos (nI_le (Nat.le_refl _) (by omega))]
      exact ⟨U, rfl, hU⟩
