/-! placings: the class's search -/
def bE (nm : Nat) (b : BS) (T : ux_S) : Prop := match b with
  | none => T.1 3 7 = 1000000000
  | some (v, q) => v ≤ 2000000 ∧ T.1 3 7 = nI v ∧ ∀ k, k < nm → T.1 25 k = nI (q k)
def cI (S : ux_S) (nr nm m : Nat) (row : RW) (b : BS) (T : ux_S) : Prop := cF S nr m row T ∧ (∀ k j, k ≤ m → j < nr → T.1 (29 + k) j = nI (pgv S nr row k j)) ∧ (∀ k, k < m → row k < nr ∧ T.1 26 k = nI (row k)) ∧ bE nm b T
theorem bE_c {nm : Nat} {b : BS} {T U : ux_S} (h : bE nm b T) (e : U.1 3 7 = T.1 3 7) (e2 : ∀ k, U.1 25 k = T.1 25 k) : bE nm b U := by
  cases b with
  | none => exact e.trans h
  | some p => exact ⟨h.1, e.trans h.2.1, fun k hk => (e2 k).trans (h.2.2 k hk)⟩
theorem ux_c_2 (S : ux_S) (a b n : Nat) : (ux_c S a b n).2 = S.2 := rfl
theorem ux_c_ne {S : ux_S} {a b n i : Nat} (h : i ≠ b) : (ux_c S a b n).1 i = S.1 i := by simp [ux_c, h]
theorem ux_c_at {S : ux_S} {a b n k : Nat} (h : k < n) : (ux_c S a b n).1 b k = S.1 a k := by
  simp only [ux_c, if_true]
  exact sb_cpy0 h
theorem t_search {n : Nat} (hn : 10 ≤ n) {S : ux_S} {nr nm av fv : Nat} (h1 : RHall S nr) (h3 : RMach S nm) (ha : S.1 1 6 = nI av) (hf : S.1 1 7 = nI fv) (hab : av ≤ 30) (hfb : 1 ≤ fv ∧ fv ≤ 5) : ∀ t rr m row b T, m + t = nm → t < rr → cI S nr nm m row b T → ∃ Z, f_X4_searchFrom_r n rr T (nI m) = some Z ∧ cI S nr nm m row (TC nr (pok S) (lfB (pW S nr nm av fv)) t m row b) Z := by
  have h8 := h1.1
  have h5 := h3.1
  intro t
  induction t with
  | zero =>
    intro rr m row b T hm hrr hT
    obtain ⟨rr', rfl⟩ : ∃ x, rr = x + 1 := ⟨rr - 1, by omega⟩
    have em : m = nm := by omega
    subst em
    obtain ⟨i1, i2, i3, i4⟩ := hT
    have hH := smHall' h1 i1.1
    have hM := smMach h3 i1.1
    have gl : ∀ j, j < nr → pgv S nr row m j ≤ 1900000 := fun j hj => pgv_le h1 h3 (Nat.le_refl _) (by omega) (fun k hk => (i3 k hk).1)
    have hg := t_greatest hn hH (by rw [i1.1.1 1 6 (by unfold PAll; omega)]; exact ha) (by rw [i1.1.1 1 7 (by unfold PAll; omega)]; exact hf) hfb (by omega : m ≤ 5) (fun j hj => ⟨i2 m j (Nat.le_refl _) hj, gl j hj⟩)
    have wl : WG av fv nr (pgv S nr row m) ≤ 2000000 := by
      have := mx_le (g := pgv S nr row m) nr gl
      unfold WG
      have h9 : (mx (pgv S nr row m) nr + fv - 1) / fv ≤ mx (pgv S nr row m) nr + fv - 1 := Nat.div_le_self _ _
      omega
    show ∃ Z, fb_X4_searchFrom n (f_X4_searchFrom_r n rr') T (nI m) = some Z ∧ cI S nr m m row (lfB (pW S nr m av fv) row b) Z
    unfold fb_X4_searchFrom
    rw [hg, ux_bi_s, hM.2.1, if_neg (show ¬ nI m < nI m from nI_nlt (Nat.le_refl _) (by omega))]
    have fin : cI S nr m m row (some (WG av fv nr (pgv S nr row m), row)) (ux_c (ux_i T 3 7 (nI (WG av fv nr (pgv S nr row m)))) 26 25 5) := by
      refine ⟨⟨⟨fun i k q => ?_, i1.1.2⟩, fun r hr => ?_⟩, fun k j hk hj => ?_, fun k hk => ⟨(i3 k hk).1, ?_⟩, wl, ?_, fun k hk => ?_⟩
      · rw [ux_c_ne (by unfold PAll at q; omega), ux_i_off (by unfold PAll at q; omega)]; exact i1.1.1 i k q
      · rw [ux_c_ne (by omega), rd_ne (by omega)]; exact i1.2 r hr
      · rw [ux_c_ne (by omega), rd_ne (by omega)]; exact i2 k j hk hj
      · rw [ux_c_ne (by omega), rd_ne (by omega)]; exact (i3 k hk).2
      · rw [ux_c_ne (by omega), ux_i_same]
      · rw [ux_c_at (by omega), rd_ne (by omega)]; exact (i3 k hk).2
    cases b with
    | none =>
      rw [show T.1 3 7 = nI 1000000000 from i4, if_pos (nI_lt (by omega) (by omega))]
      exact ⟨_, rfl, fin⟩
    | some p =>
      obtain ⟨v, q⟩ := p
      rw [i4.2.1]
      show ∃ Z, _ ∧ cI S nr m m row (if WG av fv nr (pgv S nr row m) < v then some (WG av fv nr (pgv S nr row m), row) else some (v, q)) Z
      have vl := i4.1
      by_cases hw : WG av fv nr (pgv S nr row m) < v
      · rw [if_pos (nI_lt hw (by omega)), if_pos hw]
        exact ⟨_, rfl, fin⟩
      · rw [if_neg (nI_nlt (by omega) (by omega)), if_neg hw]
        exact ⟨T, rfl, i1, i2, i3, i4⟩
  | succ t ih =>
    intro rr m row b T hm hrr hT
    obtain ⟨rr', rfl⟩ : ∃ x, rr = x + 1 := ⟨rr - 1, by omega⟩
    obtain ⟨i1, i2, i3, i4⟩ := id hT
    have hH := smHall' h1 i1.1
    have hM := smMach h3 i1.1
    have gl : ∀ j, j < nr → pgv S nr row m j ≤ 1900000 := fun j hj => pgv_le h1 h3 (by omega) (by omega) (fun k hk => (i3 k hk).1)
    have hg := t_greatest hn hH (by rw [i1.1.1 1 6 (by unfold PAll; omega)]; exact ha) (by rw [i1.1.1 1 7 (by unfold PAll; omega)]; exact hf) hfb (by omega : m ≤ 5) (fun j hj => ⟨i2 m j (Nat.le_refl _) hj, gl j hj⟩)
    have wl : WG av fv nr (pgv S nr row m) ≤ 2000000 := by
      have := mx_le (g := pgv S nr row m) nr gl
      unfold WG
      have h9 : (mx (pgv S nr row m) nr + fv - 1) / fv ≤ mx (pgv S nr row m) nr + fv - 1 := Nat.div_le_self _ _
      omega
    have loop : ∃ Z, ux_lp1 (b_X4_searchFrom_47 n (f_X4_searchFrom_r n rr') (nI m)) n 0 T = some Z ∧ cI S nr nm m row (TC nr (pok S) (lfB (pW S nr nm av fv)) (t + 1) m row b) Z := by
      refine ux_lpi1 (b := b_X4_searchFrom_47 n (f_X4_searchFrom_r n rr') (nI m)) nr (fun k U => cI S nr nm m row (fd (fun r a => if pok S m (st row m r) then TC nr (pok S) (lfB (pW S nr nm av fv)) t (m + 1) (st row m r) a else a) k b) U) (fun o => ∃ Z, o = some Z ∧ cI S nr nm m row (TC nr (pok S) (lfB (pW S nr nm av fv)) (t + 1) m row b) Z) ?_ ?_ n 0 T (by omega) (by omega) hT
      · intro r U hr hI K hK
        have hHU := smHall' h1 hI.1.1
        have hMU := smMach h3 hI.1.1
        have hok := cF.ok h1 h3 (by omega : m < nm) hI.1 hr
        unfold b_X4_searchFrom_47
        rw [hHU.2.1, if_neg (nI_ge hr (by omega)), ux_ibn (by omega : r < 8) (by omega), ux_ibn (by omega : m < 5) (by omega)]
        simp only [gdt]
        rw [nI_clamp (by omega : r < 2 ^ 31), nI_clamp (by omega : m < 2 ^ 31), nI_1, nI_1]
        have nx : ∀ B, fd (fun r a => if pok S m (st row m r) then TC nr (pok S) (lfB (pW S nr nm av fv)) t (m + 1) (st row m r) a else a) r b = B → fd (fun r a => if pok S m (st row m r) then TC nr (pok S) (lfB (pW S nr nm av fv)) t (m + 1) (st row m r) a else a) (r + 1) b = if pok S m (st row m r) then TC nr (pok S) (lfB (pW S nr nm av fv)) t (m + 1) (st row m r) B else B := fun B hB => by subst hB; rfl
        replace nx := nx _ rfl
        generalize fd (fun r a => if pok S m (st row m r) then TC nr (pok S) (lfB (pW S nr nm av fv)) t (m + 1) (st row m r) a else a) r b = B at hI nx
        generalize fd (fun r a => if pok S m (st row m r) then TC nr (pok S) (lfB (pW S nr nm av fv)) t (m + 1) (st row m r) a else a) (r + 1) b = B' at hK nx
        subst nx
        cases q : pok S m (st row m r)
        · rw [if_pos (hok.mpr q)]
          refine hK _ ?_
          rw [q]
          exact hI
        · rw [if_neg (fun e => by rw [hok.mp e] at q; cases q)]
          obtain ⟨c1, c2, c3, c4⟩ := hI
          -- the choice, what it gives off
          have eg : ∀ j, j < nr → (ux_i U 26 m (nI r)).1 (29 + m) j = nI (pgv S nr row m j) := fun j hj => by rw [rd_ne (by omega)]; exact c2 m j (Nat.le_refl _) hj
          have hA : sm S (ux_i U 26 m (nI r)) := c1.1.up (by unfold PAll; omega)
          obtain ⟨V, v1, ⟨v2, v3⟩, v4⟩ := t_giveOff hn (smHall' h1 hA) (smMach h3 hA) (by omega : m < nm) hr eg
          rw [v1, ux_bv_s]
          have eml : pml (ux_i U 26 m (nI r)) m = pml S m := by unfold pml; rw [hA.1 23 m (by unfold PAll; omega)]
          have esh : ∀ j, j < nr → psh (ux_i U 26 m (nI r)) j r = psh S j r := fun j hj => by unfold psh; rw [hA.1 (14 + j) r (by unfold PAll; omega)]
          have hV : cF S nr m row V := ⟨⟨fun i k g => by rw [v3 i k (by unfold PAll at g; omega)]; exact hA.1 i k g, v2.trans hA.2⟩, fun x hx => by rw [v3 27 x (by omega), rd_ne (by omega)]; exact c1.2 x hx⟩
          have key : cI S nr nm (m + 1) (st row m r) B (ux_i V 27 r (V.1 27 r - V.1 24 m)) := by
            refine ⟨hV.take h3 (by omega) hr q, fun k j hk hj => ?_, fun k hk => ?_, ?_⟩
            · rw [rd_ne (by omega)]
              by_cases ek : k = m + 1
              · subst ek
                rw [v4 j hj, eml, esh j hj]
                congr 1
                show _ = GV S nr j + fb_sm (fun k => pml S k * psh S j (st row m r k)) (m + 1)
                rw [fb_sm_succ, st_at, fb_sm_cong (fun k hk => by rw [st_ne (by omega : k ≠ m)])]
                show GV S nr j + fb_sm (fun k => pml S k * psh S j (row k)) m + _ = _
                omega
              · rw [v3 (29 + k) j (by omega), rd_ne (by omega), c2 k j (by omega) hj, show pgv S nr row k j = pgv S nr (st row m r) k j from gvn_cong (fun i hi => (st_ne (by omega)).symm)]
            · rw [rd_ne (by omega), v3 26 k (by omega), rd_if]
              by_cases ek : k = m
              · subst ek; rw [if_pos rfl, st_at]; exact ⟨hr, rfl⟩
              · rw [if_neg ek, st_ne ek]; exact c3 k (by omega)
            · exact bE_c c4 (by rw [rd_ne (by omega), v3 3 7 (by omega), rd_ne (by omega)]) (fun k => by rw [rd_ne (by omega), v3 25 k (by omega), rd_ne (by omega)])
          obtain ⟨Z, z1, z2, z3, z4, z5⟩ := ih rr' (m + 1) (st row m r) B _ (by omega) (by omega) key
          rw [z1, ux_bv_s]
          refine hK _ ?_
          rw [q, if_pos rfl]
          refine ⟨z2.give h3 (by omega) hr, fun k j hk hj => ?_, fun k hk => ?_, ?_⟩
          · rw [rd_ne (by omega), z3 k j (by omega) hj, show pgv S nr row k j = pgv S nr (st row m r) k j from gvn_cong (fun i hi => (st_ne (by omega)).symm)]
          · rw [rd_ne (by omega)]
            have := z4 k (by omega)
            rw [st_ne (by omega : k ≠ m)] at this
            exact this
          · exact bE_c z5 (by rw [rd_ne (by omega)]) (fun k => by rw [rd_ne (by omega)])
      · intro U hI K
        have hHU := smHall' h1 hI.1.1
        unfold b_X4_searchFrom_47
        rw [hHU.2.1, if_pos (nI_le (Nat.le_refl _) (by omega))]
        exact ⟨U, rfl, hI⟩
    show ∃ Z, fb_X4_searchFrom n (f_X4_searchFrom_r n rr') T (nI m) = some Z ∧ _
    unfold fb_X4_searchFrom
    rw [hg, ux_bi_s, hM.2.1, if_pos (show nI m < nI nm from nI_lt (by omega) (by omega))]
    cases b with
    | none =>
      rw [show T.1 3 7 = nI 1000000000 from i4, if_pos (nI_lt (by omega) (by omega))]
      exact loop
    | some p =>
      obtain ⟨v, q⟩ := p
      rw [i4.2.1]
      have vl := i4.1
      by_cases hw : WG av fv nr (pgv S nr row m) < v
      · rw [if_pos (nI_lt hw (by omega))]
        exact loop
      · rw [if_neg (nI_nlt (by omega) (by omega)), TC_cut (t + 1) m row v q (by omega) (Nat.le_of_not_lt hw)]
        exact ⟨T, rfl, hT⟩
