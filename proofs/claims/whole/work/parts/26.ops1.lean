/-! within, in, has -/
theorem i10 : ((1 : Int32) = 0) = False := by decide
theorem i00 : ((0 : Int32) = 0) = True := by decide
def ir (a b c : Int32) : Int32 := if b ≤ a ∧ a ≤ c then 1 else 0
theorem ir_cases (a b c : Int32) : (ir a b c = 0 ∧ ¬ (b ≤ a ∧ a ≤ c)) ∨ (ir a b c = 1 ∧ b ≤ a ∧ a ≤ c) := by
  unfold ir
  by_cases h : b ≤ a ∧ a ≤ c
  · rw [if_pos h]; exact Or.inr ⟨rfl, h⟩
  · rw [if_neg h]; exact Or.inl ⟨rfl, h⟩
theorem ir_rg {a b c : Int32} {x y : Int} (h : b ≤ a ∧ a ≤ c) (hb : b.toInt = x) (hc : c.toInt = y) : rg x y a := by
  rw [fa_le, fa_le] at h
  exact ⟨by omega, by omega⟩
theorem ir_zb (a b c : Int32) : ux_zb (ir a b c) = true := by
  rcases ir_cases a b c with ⟨h, -⟩ | ⟨h, -⟩ <;> rw [h]
  · exact ux_zb0
  · exact ux_zb1
theorem t_within (S : ux_S) (a b c : Int32) : f_X7_within S a b c = some (ir a b c, S) := by
  unfold f_X7_within ir
  by_cases h1 : a < b
  · rw [if_pos h1, if_neg]
    rw [fa_lt] at h1; rw [fa_le, fa_le]; omega
  · by_cases h2 : c < a
    · rw [if_neg h1, if_pos h2, if_neg]
      rw [fa_lt] at h2; rw [fa_le, fa_le]; omega
    · rw [if_neg h1, if_neg h2, if_pos ⟨fa_of_nlt h1, fa_of_nlt h2⟩]
theorem t_isAir (S : ux_S) (a : Int32) : f_X7_isAir S a = some (ir a 10 30, S) := by
  unfold f_X7_isAir; rw [t_within, ux_bi_s, ux_gd_t (ir_zb _ _ _)]
theorem t_isFan (S : ux_S) (a : Int32) : f_X7_isFan S a = some (ir a 1 5, S) := by
  unfold f_X7_isFan; rw [t_within, ux_bi_s, ux_gd_t (ir_zb _ _ _)]
theorem t_isLane (S : ux_S) (a : Int32) : f_X7_isLane S a = some (ir a 0 2, S) := by
  unfold f_X7_isLane; rw [t_within, ux_bi_s, ux_gd_t (ir_zb _ _ _)]
theorem t_cmpl (x y : Int64) : lg_cmp x y < 0 ↔ x < y := by
  unfold lg_cmp
  rw [fa_lt64]
  by_cases h : x > y
  · rw [if_pos h]
    have h2 : y < x := h
    rw [fa_lt64] at h2
    constructor
    · intro q; exact absurd q (by decide)
    · intro q; omega
  · rw [if_neg h]
    have h2 : ¬ y < x := h
    rw [fa_lt64] at h2
    by_cases e : x = y
    · rw [if_pos e]
      rw [fa_eq64] at e
      constructor
      · intro q; exact absurd q (by decide)
      · intro q; omega
    · rw [if_neg e]
      rw [fa_eq64] at e
      constructor
      · intro q; omega
      · intro q; decide
theorem t_cmpg (x y : Int64) : 0 < lg_cmp x y ↔ y < x := by
  unfold lg_cmp
  by_cases h : x > y
  · rw [if_pos h]
    exact ⟨fun _ => h, fun _ => by decide⟩
  · rw [if_neg h]
    by_cases e : x = y
    · rw [if_pos e]
      exact ⟨fun q => absurd q (by decide), fun q => absurd q h⟩
    · rw [if_neg e]
      exact ⟨fun q => absurd q (by decide), fun q => absurd q h⟩
theorem t_in (S : ux_S) (x b c : Int32) {B C : Int64} (hB : B = b.toInt64) (hC : C = c.toInt64) : f_X8_in S x.toInt64 B C = some (ir x b c, S) := by
  subst hB; subst hC
  unfold f_X8_in ir
  by_cases h1 : x < b
  · rw [if_pos ((t_cmpl _ _).mpr ((fa_wide_lt _ _).mpr h1)), if_neg]
    rw [fa_lt] at h1; rw [fa_le, fa_le]; omega
  · rw [if_neg (fun q => h1 ((fa_wide_lt _ _).mp ((t_cmpl _ _).mp q)))]
    by_cases h2 : c < x
    · rw [if_pos ((t_cmpg _ _).mpr ((fa_wide_lt _ _).mpr h2)), if_neg]
      rw [fa_lt] at h2; rw [fa_le, fa_le]; omega
    · rw [if_neg (fun q => h2 ((fa_wide_lt _ _).mp ((t_cmpg _ _).mp q))), if_pos ⟨fa_of_nlt h1, fa_of_nlt h2⟩]
/-- is there a thing of that number -/
def hs (x : Int32) (n : Nat) : Int32 := if x < 0 ∨ nI n ≤ x then 0 else 1
theorem hs_cases (x : Int32) {n : Nat} (hn : n < 2 ^ 31) : hs x n = 0 ∨ (hs x n = 1 ∧ ∃ j, j < n ∧ x = nI j) := by
  unfold hs
  rcases pk_ix x hn with h | h | h
  · rw [if_pos (Or.inl h)]; exact Or.inl rfl
  · rw [if_pos (Or.inr h)]; exact Or.inl rfl
  · right
    obtain ⟨j, hj, rfl⟩ := h
    rw [if_neg]
    · exact ⟨rfl, j, hj, rfl⟩
    · intro q
      rcases q with q | q
      · exact nI_pos (by omega) q
      · exact nI_ge hj hn q
theorem hs_zb (x : Int32) (n : Nat) : ux_zb (hs x n) = true := by
  unfold hs
  by_cases h : x < 0 ∨ nI n ≤ x
  · rw [if_pos h]; exact ux_zb0
  · rw [if_neg h]; exact ux_zb1
theorem hs_if (x : Int32) (n : Nat) (S : ux_S) : (if x < 0 then some ((0 : Int32), S) else if nI n ≤ x then some (0, S) else some (1, S)) = some (hs x n, S) := by
  unfold hs
  by_cases h1 : x < 0
  · rw [if_pos h1, if_pos (Or.inl h1)]
  · by_cases h2 : nI n ≤ x
    · rw [if_neg h1, if_pos h2, if_pos (Or.inr h2)]
    · rw [if_neg h1, if_neg h2, if_neg (fun q => q.elim h1 h2)]
theorem t_has2 {S : ux_S} {n : Nat} (h : S.1 1 5 = nI n) (x : Int32) : f_X2_has S x = some (hs x n, S) := by
  unfold f_X2_has; rw [h]; exact hs_if x n S
theorem t_has1 {S : ux_S} {n : Nat} (h : S.1 5 4 = nI n) (x : Int32) : f_X1_has S x = some (hs x n, S) := by
  unfold f_X1_has; rw [h]; exact hs_if x n S
theorem t_has3 {S : ux_S} {n : Nat} (h : S.1 7 5 = nI n) (x : Int32) : f_X3_has S x = some (hs x n, S) := by
  unfold f_X3_has; rw [h]; exact hs_if x n S
theorem t_inN (S : ux_S) (x : Int32) {n : Nat} (hn : n < 2 ^ 30) : f_X8_in S x.toInt64 0 (nI n - 1).toInt64 = some (hs x n, S) := by
  rw [t_in S x 0 (nI n - 1) (by decide) rfl]
  have h1 : (nI n - 1).toInt = (n : Int) - 1 := by
    rw [show (1 : Int32) = nI 1 from rfl, pk_sub_toInt (by omega) (by omega)]; rfl
  have h2 : (nI n).toInt = (n : Int) := nI_toInt (by omega)
  have h0 : (0 : Int32).toInt = 0 := by decide
  congr 2
  unfold ir hs
  by_cases h : 0 ≤ x ∧ x ≤ nI n - 1
  · rw [if_pos h, if_neg]
    rw [fa_le, fa_le, h1, h0] at h
    rw [fa_lt, fa_le, h2, h0]
    omega
  · rw [if_neg h, if_pos]
    rw [fa_le, fa_le, h1, h0] at h
    rw [fa_lt, fa_le, h2, h0]
    omega
theorem t_isRack {S : ux_S} {n : Nat} (hn : n < 2 ^ 30) (h : S.1 8 0 = nI n) (x : Int32) : f_X8_isRack S x = some (hs x n, S) := by
  unfold f_X8_isRack; rw [h, t_inN S x hn, ux_bi_s, ux_gd_t (hs_zb _ _)]
theorem t_isFeed {S : ux_S} {n : Nat} (hn : n < 2 ^ 30) (h : S.1 8 22 = nI n) (x : Int32) : f_X8_isFeed S x = some (hs x n, S) := by
  unfold f_X8_isFeed; rw [h, t_inN S x hn, ux_bi_s, ux_gd_t (hs_zb _ _)]
theorem t_isMeter {S : ux_S} {n : Nat} (hn : n < 2 ^ 30) (h : S.1 8 31 = nI n) (x : Int32) : f_X8_isMeter S x = some (hs x n, S) := by
  unfold f_X8_isMeter; rw [h, t_inN S x hn, ux_bi_s, ux_gd_t (hs_zb _ _)]
/-! changes of one part -/
def off (P : Nat → Nat → Prop) (S Z : ux_S) : Prop := ag (fun i k => ¬ P i k) S Z ∧ Z.2 = S.2
theorem off.rf {P : Nat → Nat → Prop} {S : ux_S} : off P S S := ⟨ag.rf, rfl⟩
theorem off.up {P : Nat → Nat → Prop} {A B : ux_S} {a b : Nat} {v : Int32} (h : off P A B) (hn : P a b) : off P A (ux_i B a b v) := ⟨h.1.up (fun i k q => by
  by_cases e : i = a
  · by_cases e2 : k = b
    · subst e; subst e2; exact absurd hn q
    · exact Or.inr e2
  · exact Or.inl e), h.2⟩
theorem offHall {S Z : ux_S} {nr' nm nf nc nt : Nat} (o : off PHall S Z) (h1 : RHall Z nr') (h2 : RPrices S) (h3 : RMach S nm) (h4 : RSheet S) (h5 : RFeed Z nf nr') (h6 : RAlarm S nc) (h7 : RMet S nt) : Rel Z :=
  ⟨nr', nm, nf, nc, nt, h1, h2.cong (fun i k q => o.1 i k (by unfold PPrices at q; unfold PHall; omega)), h3.cong (fun i k q => o.1 i k (by unfold PMach at q; unfold PHall; omega)), h4.cong (fun i k q => o.1 i k (by unfold PSheet at q; unfold PHall; omega)) o.2, h5, h6.cong (fun i k q => o.1 i k (by unfold PAlarm at q; unfold PHall; omega)), h7.cong (fun i k q => o.1 i k (by unfold PMet at q; unfold PHall; omega))⟩
theorem offHallF {S Z : ux_S} {nr nf : Nat} (o : off PHall S Z) (h : RFeed S nf nr) : RFeed Z nf nr := h.cong (fun i k q => o.1 i k (by unfold PFeed at q; unfold PHall; omega))
theorem offPrices {S Z : ux_S} {nr nm nf nc nt : Nat} (o : off PPrices S Z) (h1 : RHall S nr) (h2 : RPrices Z) (h3 : RMach S nm) (h4 : RSheet S) (h5 : RFeed S nf nr) (h6 : RAlarm S nc) (h7 : RMet S nt) : Rel Z :=
  ⟨nr, nm, nf, nc, nt, h1.cong (fun i k q => o.1 i k (by unfold PHall at q; unfold PPrices; omega)), h2, h3.cong (fun i k q => o.1 i k (by unfold PMach at q; unfold PPrices; omega)), h4.cong (fun i k q => o.1 i k (by unfold PSheet at q; unfold PPrices; omega)) o.2, h5.cong (fun i k q => o.1 i k (by unfold PFeed at q; unfold PPrices; omega)), h6.cong (fun i k q => o.1 i k (by unfold PAlarm at q; unfold PPrices; omega)), h7.cong (fun i k q => o.1 i k (by unfold PMet at q; unfold PPrices; omega))⟩
theorem offMach {S Z : ux_S} {nr nm nf nc nt : Nat} (o : off PMach S Z) (h1 : RHall S nr) (h2 : RPrices S) (h3 : RMach Z nm) (h4 : RSheet S) (h5 : RFeed S nf nr) (h6 : RAlarm S nc) (h7 : RMet S nt) : Rel Z :=
  ⟨nr, nm, nf, nc, nt, h1.cong (fun i k q => o.1 i k (by unfold PHall at q; unfold PMach; omega)), h2.cong (fun i k q => o.1 i k (by unfold PPrices at q; unfold PMach; omega)), h3, h4.cong (fun i k q => o.1 i k (by unfold PSheet at q; unfold PMach; omega)) o.2, h5.cong (fun i k q => o.1 i k (by unfold PFeed at q; unfold PMach; omega)), h6.cong (fun i k q => o.1 i k (by unfold PAlarm at q; unfold PMach; omega)), h7.cong (fun i k q => o.1 i k (by unfold PMet at q; unfold PMach; omega))⟩
theorem offFeed {S Z : ux_S} {nr nm nf nc nt : Nat} (o : off PFeed S Z) (h1 : RHall S nr) (h2 : RPrices S) (h3 : RMach S nm) (h4 : RSheet S) (h5 : RFeed Z nf nr) (h6 : RAlarm S nc) (h7 : RMet S nt) : Rel Z :=
  ⟨nr, nm, nf, nc, nt, h1.cong (fun i k q => o.1 i k (by unfold PHall at q; unfold PFeed; omega)), h2.cong (fun i k q => o.1 i k (by unfold PPrices at q; unfold PFeed; omega)), h3.cong (fun i k q => o.1 i k (by unfold PMach at q; unfold PFeed; omega)), h4.cong (fun i k q => o.1 i k (by unfold PSheet at q; unfold PFeed; omega)) o.2, h5, h6.cong (fun i k q => o.1 i k (by unfold PAlarm at q; unfold PFeed; omega)), h7.cong (fun i k q => o.1 i k (by unfold PMet at q; unfold PFeed; omega))⟩
theorem offAlarm {S Z : ux_S} {nr nm nf nc nt : Nat} (o : off PAlarm S Z) (h1 : RHall S nr) (h2 : RPrices S) (h3 : RMach S nm) (h4 : RSheet S) (h5 : RFeed S nf nr) (h6 : RAlarm Z nc) (h7 : RMet S nt) : Rel Z :=
  ⟨nr, nm, nf, nc, nt, h1.cong (fun i k q => o.1 i k (by unfold PHall at q; unfold PAlarm; omega)), h2.cong (fun i k q => o.1 i k (by unfold PPrices at q; unfold PAlarm; omega)), h3.cong (fun i k q => o.1 i k (by unfold PMach at q; unfold PAlarm; omega)), h4.cong (fun i k q => o.1 i k (by unfold PSheet at q; unfold PAlarm; omega)) o.2, h5.cong (fun i k q => o.1 i k (by unfold PFeed at q; unfold PAlarm; omega)), h6, h7.cong (fun i k q => o.1 i k (by unfold PMet at q; unfold PAlarm; omega))⟩
theorem offMet {S Z : ux_S} {nr nm nf nc nt : Nat} (o : off PMet S Z) (h1 : RHall S nr) (h2 : RPrices S) (h3 : RMach S nm) (h4 : RSheet S) (h5 : RFeed S nf nr) (h6 : RAlarm S nc) (h7 : RMet Z nt) : Rel Z :=
  ⟨nr, nm, nf, nc, nt, h1.cong (fun i k q => o.1 i k (by unfold PHall at q; unfold PMet; omega)), h2.cong (fun i k q => o.1 i k (by unfold PPrices at q; unfold PMet; omega)), h3.cong (fun i k q => o.1 i k (by unfold PMach at q; unfold PMet; omega)), h4.cong (fun i k q => o.1 i k (by unfold PSheet at q; unfold PMet; omega)) o.2, h5.cong (fun i k q => o.1 i k (by unfold PFeed at q; unfold PMet; omega)), h6.cong (fun i k q => o.1 i k (by unfold PAlarm at q; unfold PMet; omega)), h7⟩
/-! a read behind writes -/
theorem rd_ne {S : ux_S} {i a k b : Nat} {v : Int32} (h : i ≠ a) : (ux_i S a b v).1 i k = S.1 i k := by rw [ux_i_ne h]
theorem rd_nk {S : ux_S} {i k b : Nat} {v : Int32} (h : k ≠ b) : (ux_i S i b v).1 i k = S.1 i k := ux_i_off (Or.inr h)
theorem rd_if {S : ux_S} {i k b : Nat} {v : Int32} : (ux_i S i b v).1 i k = if k = b then v else S.1 i k := by
  by_cases h : k = b
  · subst h; rw [if_pos rfl, ux_i_same]
  · rw [if_neg h, rd_nk h]
theorem ti_0_1000 (S : ux_S) (x : Int32) : f_X8_in S x.toInt64 0 1000 = some (ir x 0 1000, S) := t_in S x 0 1000 (by decide) (by decide)
theorem ti_10000_60000 (S : ux_S) (x : Int32) : f_X8_in S x.toInt64 10000 60000 = some (ir x 10000 60000, S) := t_in S x 10000 60000 (by decide) (by decide)
theorem ti_1_1000 (S : ux_S) (x : Int32) : f_X8_in S x.toInt64 1 1000 = some (ir x 1 1000, S) := t_in S x 1 1000 (by decide) (by decide)
theorem ti_0_20 (S : ux_S) (x : Int32) : f_X8_in S x.toInt64 0 20 = some (ir x 0 20, S) := t_in S x 0 20 (by decide) (by decide)
theorem ti_0_200 (S : ux_S) (x : Int32) : f_X8_in S x.toInt64 0 200 = some (ir x 0 200, S) := t_in S x 0 200 (by decide) (by decide)
theorem ti_0_3 (S : ux_S) (x : Int32) : f_X8_in S x.toInt64 0 3 = some (ir x 0 3, S) := t_in S x 0 3 (by decide) (by decide)
theorem ti_0_2 (S : ux_S) (x : Int32) : f_X8_in S x.toInt64 0 2 = some (ir x 0 2, S) := t_in S x 0 2 (by decide) (by decide)
theorem ti_10_30 (S : ux_S) (x : Int32) : f_X8_in S x.toInt64 10 30 = some (ir x 10 30, S) := t_in S x 10 30 (by decide) (by decide)
theorem ti_1_5 (S : ux_S) (x : Int32) : f_X8_in S x.toInt64 1 5 = some (ir x 1 5, S) := t_in S x 1 5 (by decide) (by decide)
theorem ti_1_300 (S : ux_S) (x : Int32) : f_X8_in S x.toInt64 1 300 = some (ir x 1 300, S) := t_in S x 1 300 (by decide) (by decide)
theorem ti_1_10 (S : ux_S) (x : Int32) : f_X8_in S x.toInt64 1 10 = some (ir x 1 10, S) := t_in S x 1 10 (by decide) (by decide)
theorem ti_0_10000 (S : ux_S) (x : Int32) : f_X8_in S x.toInt64 0 10000 = some (ir x 0 10000, S) := t_in S x 0 10000 (by decide) (by decide)
theorem ti_0_1 (S : ux_S) (x : Int32) : f_X8_in S x.toInt64 0 1 = some (ir x 0 1, S) := t_in S x 0 1 (by decide) (by decide)
theorem ti_1_65535 (S : ux_S) (x : Int32) : f_X8_in S x.toInt64 1 65535 = some (ir x 1 65535, S) := t_in S x 1 65535 (by decide) (by decide)
theorem ti_0_65535 (S : ux_S) (x : Int32) : f_X8_in S x.toInt64 0 65535 = some (ir x 0 65535, S) := t_in S x 0 65535 (by decide) (by decide)
theorem ti_m100000_100000 (S : ux_S) (x : Int32) : f_X8_in S x.toInt64 (-100000) 100000 = some (ir x (-100000) 100000, S) := t_in S x (-100000) 100000 (by decide) (by decide)
theorem ti_0_4 (S : ux_S) (x : Int32) : f_X8_in S x.toInt64 0 4 = some (ir x 0 4, S) := t_in S x 0 4 (by decide) (by decide)
theorem ti_0_100 (S : ux_S) (x : Int32) : f_X8_in S x.toInt64 0 100 = some (ir x 0 100, S) := t_in S x 0 100 (by decide) (by decide)
/-! load -/
theorem pr_load (p0 p1 : Int32) : alike (fun S => f_X7_load S p0 p1) (fun S => f_X8_load S p0 p1) := by
  intro S hR
  obtain ⟨nr, nm, nf, nc, nt, h1, h2, h3, h4, h5, h6, h7⟩ := id hR
  obtain ⟨g0, g1, g2, g3, g4, g5, g6⟩ := id h1
  rcases hs_cases p0 (n := nr) (by omega) with e | ⟨e, j, hj, rfl⟩
  · refine ⟨-1, S, S, ?_, ?_, hR⟩
    · simp only [f_X7_load, t_has2 g1, ux_bi_s, e, i00, if_true]
    · simp only [f_X8_load, t_isRack (by omega) g2, ux_bi_s, e, i00, if_true]
  · rcases ir_cases p1 0 1000 with ⟨e2, -⟩ | ⟨e2, h8⟩
    · refine ⟨-1, S, S, ?_, ?_, hR⟩
      · simp only [f_X7_load, t_has2 g1, ux_bi_s, e, i10, if_false, t_within, e2, i00, if_true]
      · simp only [f_X8_load, t_isRack (by omega) g2, ux_bi_s, e, i10, if_false, ti_0_1000, e2, i00, if_true]
    · have hc := nI_clamp (n := j) (by omega)
      have hb : ux_ib (nI j) 8 = true := ux_ibn (by omega) (by omega)
      refine ⟨S.1 9 j, ux_i S 9 j p1, ux_i (ux_i S 9 j p1) 54 j p1, ?_, ?_, ?_⟩
      · simp only [f_X7_load, t_has2 g1, ux_bi_s, e, i10, if_false, t_within, e2, ux_gd_t hb, hc]
      · have g2' : (ux_i S 9 j p1).1 8 0 = nI nr := by rw [rd_ne (by decide)]; exact g2
        simp only [f_X8_load, t_isRack (by omega) g2', ux_bi_s, e, i10, if_false, ti_0_1000, e2, ux_gd_t hb, hc]
        rw [rd_ne (by decide), (g3 j hj).1.1]
      · have o : off PHall S (ux_i (ux_i S 9 j p1) 54 j p1) := (off.rf.up (by unfold PHall; omega)).up (by unfold PHall; omega)
        refine offHall o ⟨g0, ?_, ?_, fun i hi => ?_, fun a b ha hb => ?_, ?_, ?_⟩ h2 h3 h4 (offHallF o h5) h6 h7
        · simp (disch := omega) only [rd_ne]; exact g1
        · simp (disch := omega) only [rd_ne]; exact g2
        · simp (disch := omega) only [rd_ne, rd_if]
          refine ⟨?_, (g3 i hi).2⟩
          by_cases q : i = j
          · rw [if_pos q, if_pos q]; exact ⟨rfl, ir_rg h8 (by decide) (by decide)⟩
          · rw [if_neg q, if_neg q]; exact (g3 i hi).1
        · simp (disch := omega) only [rd_ne]; exact g4 a b ha hb
        · simp (disch := omega) only [rd_ne]; exact g5
        · simp (disch := omega) only [rd_ne]; exact g6
/-! share -/
theorem ix8 {j i : Nat} (hj : j < 8) (hi : i < 8) : (8 : Int32) * nI j + nI i = nI (8 * j + i) := by
  rw [show (8 : Int32) = nI 8 from rfl, pk_mul, nI_add]
theorem pr_share (p0 p1 p2 : Int32) : alike (fun S => f_X7_share S p0 p1 p2) (fun S => f_X8_share S p0 p1 p2) := by
  intro S hR
  obtain ⟨nr, nm, nf, nc, nt, h1, h2, h3, h4, h5, h6, h7⟩ := id hR
  obtain ⟨g0, g1, g2, g3, g4, g5, g6⟩ := id h1
  rcases hs_cases p0 (n := nr) (by omega) with e | ⟨e, j, hj, rfl⟩
  · refine ⟨-1, S, S, ?_, ?_, hR⟩
    · simp only [f_X7_share, t_has2 g1, ux_bi_s, e, i00, if_true]
    · simp only [f_X8_share, t_isRack (by omega) g2, ux_bi_s, e, i00, if_true]
  · rcases hs_cases p1 (n := nr) (by omega) with e1 | ⟨e1, i, hi, rfl⟩
    · refine ⟨-1, S, S, ?_, ?_, hR⟩
      · simp only [f_X7_share, t_has2 g1, ux_bi_s, e, i10, if_false, e1, i00, if_true]
      · simp only [f_X8_share, t_isRack (by omega) g2, ux_bi_s, e, i10, if_false, e1, i00, if_true]
    · rcases ir_cases p2 0 200 with ⟨e2, -⟩ | ⟨e2, h8⟩
      · refine ⟨-1, S, S, ?_, ?_, hR⟩
        · simp only [f_X7_share, t_has2 g1, ux_bi_s, e, e1, i10, if_false, t_within, e2, i00, if_true]
        · simp only [f_X8_share, t_isRack (by omega) g2, ux_bi_s, e, e1, i10, if_false, ti_0_200, e2, i00, if_true]
      · have hc := nI_clamp (n := j) (by omega)
        have hc2 := nI_clamp (n := i) (by omega)
        have hc3 := nI_clamp (n := 8 * j + i) (by omega)
        have hb : ux_ib (nI j) 8 = true := ux_ibn (by omega) (by omega)
        have hb2 : ux_ib (nI i) 8 = true := ux_ibn (by omega) (by omega)
        have hb3 : ux_ib (nI (8 * j + i)) 64 = true := ux_ibn (by omega) (by omega)
        have hq := ix8 (j := j) (i := i) (by omega) (by omega)
        refine ⟨S.1 (14 + j) i, ux_i S (14 + j) i p2, ux_i (ux_i S (14 + j) i p2) 58 (8 * j + i) p2, ?_, ?_, ?_⟩
        · simp only [f_X7_share, t_has2 g1, ux_bi_s, e, e1, i10, if_false, t_within, e2, ux_gd_t hb, ux_gd_t hb2, hc, hc2]
        · have g2' : (ux_i S (14 + j) i p2).1 8 0 = nI nr := by rw [rd_ne (by omega)]; exact g2
          simp only [f_X8_share, t_isRack (by omega) g2', ux_bi_s, e, e1, i10, if_false, ti_0_200, e2, hq, ux_gd_t hb3, hc3]
          rw [rd_ne (by omega), (g4 j i (by omega) (by omega)).1]
        · have o : off PHall S (ux_i (ux_i S (14 + j) i p2) 58 (8 * j + i) p2) := (off.rf.up (by unfold PHall; omega)).up (by unfold PHall; omega)
          refine offHall o ⟨g0, ?_, ?_, fun i hi => ?_, fun a b ha hb => ?_, ?_, ?_⟩ h2 h3 h4 (offHallF o h5) h6 h7
          · simp (disch := omega) only [rd_ne]; exact g1
          · simp (disch := omega) only [rd_ne]; exact g2
          · simp (disch := omega) only [rd_ne]; exact g3 i hi
          · simp (disch := omega) only [rd_ne, rd_if]
            by_cases qa : a = j
            · subst qa
              rw [rd_if]
              by_cases qb : b = i
              · subst qb
                rw [if_pos rfl, if_pos rfl]; exact ⟨rfl, ir_rg h8 (by decide) (by decide)⟩
              · rw [if_neg (by omega), if_neg qb]; exact g4 a b ha (by omega)
            · rw [if_neg (by omega), rd_ne (by omega)]; exact g4 a b ha hb
          · simp (disch := omega) only [rd_ne]; exact g5
          · simp (disch := omega) only [rd_ne]; exact g6
/-! set -/
theorem pr_set (p0 p1 : Int32) : alike (fun S => f_X7_set S p0 p1) (fun S => f_X8_set S p0 p1) := by
  intro S hR
  obtain ⟨nr, nm, nf, nc, nt, h1, h2, h3, h4, h5, h6, h7⟩ := id hR
  obtain ⟨g0, g1, g2, g3, g4, g5, g6⟩ := id h1
  rcases ir_cases p0 10 30 with ⟨e, -⟩ | ⟨e, h8⟩
  · refine ⟨-1, S, S, ?_, ?_, hR⟩
    · simp only [f_X7_set, t_isAir, ux_bi_s, e, i00, if_true]
    · simp only [f_X8_set, ti_10_30, ux_bi_s, e, i00, if_true]
  · rcases ir_cases p1 1 5 with ⟨e2, -⟩ | ⟨e2, h9⟩
    · refine ⟨-1, S, S, ?_, ?_, hR⟩
      · simp only [f_X7_set, t_isAir, t_isFan, ux_bi_s, e, e2, i10, if_false, i00, if_true]
      · simp only [f_X8_set, ti_10_30, ti_1_5, ux_bi_s, e, e2, i10, if_false, i00, if_true]
    · refine ⟨1, ux_i (ux_i S 1 6 p0) 1 7 p1, ux_i (ux_i (ux_i (ux_i S 1 6 p0) 1 7 p1) 8 6 p0) 8 7 p1, ?_, ?_, ?_⟩
      · simp only [f_X7_set, t_isAir, t_isFan, ux_bi_s, e, e2, i10, if_false]
      · simp only [f_X8_set, ti_10_30, ti_1_5, ux_bi_s, e, e2, i10, if_false]
      · have o : off PHall S (ux_i (ux_i (ux_i (ux_i S 1 6 p0) 1 7 p1) 8 6 p0) 8 7 p1) := (((off.rf.up (by unfold PHall; omega)).up (by unfold PHall; omega)).up (by unfold PHall; omega)).up (by unfold PHall; omega)
        refine offHall o ⟨g0, ?_, ?_, fun i hi => ?_, fun a b ha hb => ?_, ?_, ?_⟩ h2 h3 h4 (offHallF o h5) h6 h7
        · simp (disch := omega) only [rd_ne, rd_nk]; exact g1
        · simp (disch := omega) only [rd_ne, rd_nk]; exact g2
        · simp (disch := omega) only [rd_ne]; exact g3 i hi
        · simp (disch := omega) only [rd_ne]; exact g4 a b ha hb
        · simp (disch := omega) only [rd_ne, rd_nk, ux_i_same]; exact ⟨trivial, ir_rg h8 (by decide) (by decide)⟩
        · simp (disch := omega) only [rd_ne, rd_nk, ux_i_same]; exact ⟨trivial, ir_rg h9 (by decide) (by decide)⟩
/-! seen, leave -/
theorem pr_seen (p0 : Int32) : alike (fun S => f_X7_seen S p0) (fun S => f_X8_seen S p0) := by
  intro S hR
  obtain ⟨nr, nm, nf, nc, nt, h1, h2, h3, h4, h5, h6, h7⟩ := id hR
  obtain ⟨g0, g1, g2, g3, g4⟩ := id h6
  rcases ir_cases p0 0 65535 with ⟨e, -⟩ | ⟨e, h8⟩
  · refine ⟨-1, S, S, ?_, ?_, hR⟩
    · simp only [f_X7_seen, t_within, ux_bi_s, e, i00, if_true]
    · simp only [f_X8_seen, ti_0_65535, ux_bi_s, e, i00, if_true]
  · refine ⟨S.1 6 2, ux_i S 6 2 p0, ux_i (ux_i S 6 2 p0) 8 30 p0, ?_, ?_, ?_⟩
    · simp only [f_X7_seen, t_within, ux_bi_s, e, i10, if_false]
    · simp only [f_X8_seen, ti_0_65535, ux_bi_s, e, i10, if_false]
      rw [rd_ne (by decide), g4.1]
    · have o : off PAlarm S (ux_i (ux_i S 6 2 p0) 8 30 p0) := (off.rf.up (by unfold PAlarm; omega)).up (by unfold PAlarm; omega)
      refine offAlarm o h1 h2 h3 h4 h5 ⟨g0, ?_, ?_, fun c hc => ?_, ?_⟩ h7
      · simp (disch := omega) only [rd_ne, rd_nk]; exact g1
      · simp (disch := omega) only [rd_ne, rd_nk]; exact g2
      · simp (disch := omega) only [rd_ne]; exact g3 c hc
      · simp (disch := omega) only [rd_ne, rd_nk, ux_i_same]; exact ⟨trivial, ir_rg h8 (by decide) (by decide)⟩
theorem nIp {n : Nat} (h : 0 < n) : nI n - 1 = nI (n - 1) := by
  have := nI_pred (n - 1)
  rwa [show n - 1 + 1 = n by omega] at this
theorem pr_leave : alike (fun S => f_X7_leave S) (fun S => f_X8_leave S) := by
  intro S hR
  obtain ⟨nr, nm, nf, nc, nt, h1, h2, h3, h4, h5, h6, h7⟩ := id hR
  obtain ⟨g0, g1, g2, g3⟩ := id h3
  by_cases hz : nm = 0
  · subst hz
    refine ⟨-4, S, S, ?_, ?_, hR⟩
    · simp only [f_X7_leave, g1]; rfl
    · simp only [f_X8_leave, g2]; rfl
  · have hn : ¬ nI nm = 0 := nI_ne0 (by omega) (by omega)
    have hp := nIp (n := nm) (by omega)
    refine ⟨nI (nm - 1), ux_i S 3 2 (nI (nm - 1)), ux_i (ux_i S 3 2 (nI (nm - 1))) 8 10 (nI (nm - 1)), ?_, ?_, ?_⟩
    · simp only [f_X7_leave, g1, hn, if_false, hp, ux_i_same]
    · have g2' : (ux_i S 3 2 (nI (nm - 1))).1 8 10 = nI nm := by rw [rd_ne (by decide)]; exact g2
      simp only [f_X8_leave, g2', hn, if_false, hp, ux_i_same]
    · have o : off PMach S (ux_i (ux_i S 3 2 (nI (nm - 1))) 8 10 (nI (nm - 1))) := (off.rf.up (by unfold PMach; omega)).up (by unfold PMach; omega)
      refine offMach (nm := nm - 1) o h1 h2 ⟨by omega, ?_, ?_, fun i hi => ?_⟩ h4 h5 h6 h7
      · simp (disch := omega) only [rd_ne, ux_i_same]
      · simp (disch := omega) only [ux_i_same]
      · simp (disch := omega) only [rd_ne]; exact g3 i (by omega)
