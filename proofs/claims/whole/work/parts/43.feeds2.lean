/-! feeds: what goes through -/
theorem bx_add (f g : Nat → Int32) : ∀ n, bx_sum (fun k => f k + g k) n = bx_sum f n + bx_sum g n
  | 0 => rfl
  | n + 1 => by
    show bx_sum (fun k => f k + g k) n + (f n + g n) = bx_sum f n + f n + (bx_sum g n + g n)
    rw [bx_add f g n]
    rw [Int32.add_assoc, Int32.add_assoc, ← Int32.add_assoc (bx_sum g n), Int32.add_comm (bx_sum g n) (f n), Int32.add_assoc]
theorem sm1_add (c : Nat → Bool) (f g : Nat → Int32) (n : Nat) : sm1 c (fun k => f k + g k) n = sm1 c f n + sm1 c g n := by
  unfold sm1
  rw [← bx_add]
  refine bx_cong n (fun k _ => ?_)
  cases c k <;> simp
theorem sm1_zero {c : Nat → Bool} {f : Nat → Int32} (n : Nat) (h : ∀ k, k < n → c k = true → f k = 0) : sm1 c f n = 0 := by
  unfold sm1
  rw [bx_cong (g := fun _ => 0) n (fun k hk => by
    cases hc : c k
    · rfl
    · simp [h k hk hc]), bx_zero]
theorem sm1_s (c : Nat → Bool) (f : Nat → Int32) (n : Nat) : sm1 c f (n + 1) = sm1 c f n + (if c n then f n else 0) := rfl
theorem sm1_cong {c d : Nat → Bool} {f g : Nat → Int32} (n : Nat) (h : ∀ k, k < n → c k = d k ∧ f k = g k) : sm1 c f n = sm1 d g n := by
  unfold sm1
  exact bx_cong n (fun k hk => by rw [(h k hk).1, (h k hk).2])
theorem sm1_upd {c : Nat → Bool} {V : Nat → Int32} {g : Nat} {v : Int32} : ∀ m, g < m → sm1 c (upd V g (V g + v)) m = sm1 c V m + (if c g then v else 0)
  | 0, h => by omega
  | m + 1, h => by
    rw [sm1_s, sm1_s]
    by_cases q : g = m
    · subst q
      rw [sm1_cong (d := c) (g := V) g (fun k hk => ⟨rfl, by unfold upd; rw [if_neg (by omega)]⟩)]
      have : upd V g (V g + v) g = V g + v := by unfold upd; rw [if_pos rfl]
      rw [this]
      cases c g
      · simp
      · simp [Int32.add_assoc]
    · rw [sm1_upd m (by omega)]
      have : upd V g (V g + v) m = V m := by unfold upd; rw [if_neg (by omega)]
      rw [this, Int32.add_assoc, Int32.add_assoc, Int32.add_comm (if c g then v else 0)]
theorem sm1_swap (c : Nat → Bool) (f : Nat → Nat → Int32) (nf : Nat) : ∀ nr, sm1 c (fun g => bx_sum (fun r => f r g) nr) nf = bx_sum (fun r => sm1 c (f r) nf) nr
  | 0 => sm1_zero nf (fun _ _ _ => rfl)
  | nr + 1 => by
    show sm1 c (fun g => bx_sum (fun r => f r g) nr + f nr g) nf = bx_sum (fun r => sm1 c (f r) nf) nr + sm1 c (f nr) nf
    rw [sm1_add, sm1_swap c f nf nr]
theorem sm1_pick {c : Nat → Bool} {g : Nat} {a : Int32} (hg : g < 2 ^ 31) : ∀ n, n ≤ 2 ^ 31 → sm1 c (fun k => if nI g = nI k then a else 0) n = if g < n ∧ c g = true then a else 0
  | 0, _ => by rw [if_neg (by omega)]; rfl
  | n + 1, h => by
    rw [sm1_s, sm1_pick hg n (by omega)]
    by_cases q : g = n
    · subst q
      rw [if_neg (by omega), if_pos rfl, Int32.zero_add]
      cases c g <;> simp
    · have : ¬ nI g = nI n := by rw [nI_eq hg (by omega)]; exact q
      rw [if_neg this, ite_self, Int32.add_zero]
      by_cases q2 : g < n
      · simp [q2, show g < n + 1 by omega]
      · simp [q2, show ¬ g < n + 1 by omega]
/-- a plug's feed is there and gives -/
def lv (D : Nat → Bool) (x : Int32) : Bool := !decide (x = -4) && !D (tn x)
def am (S : ux_S) (D : Nat → Bool) (w r : Nat) : Int32 := if lv D (S.1 (45 + w) r) then (if lv D (S.1 (45 + (1 - w)) r) then (if w = 0 then S.1 9 r - S.1 9 r / 2 else S.1 9 r / 2) else S.1 9 r) else 0
def dr (S : ux_S) (D : Nat → Bool) (r g : Nat) : Int32 := (if S.1 45 r = nI g then am S D 0 r else 0) + (if S.1 46 r = nI g then am S D 1 r else 0)
def chn (ab : Nat → Int32) (p g : Nat) : Bool := dd ab (fun x => decide (x = p)) g
def upl (ab : Nat → Int32) (p : Nat) (x : Int32) : Bool := !decide (x = -4) && chn ab p (tn x)
/-- what goes through p -/
def thr (S : ux_S) (D : Nat → Bool) (nr p : Nat) : Int32 := bx_sum (fun r => (if upl (S.1 42) p (S.1 45 r) then am S D 0 r else 0) + (if upl (S.1 42) p (S.1 46 r) then am S D 1 r else 0)) nr
def e47 (S T : ux_S) : Prop := T.2 = S.2 ∧ ∀ i, i ≠ 47 → T.1 i = S.1 i
theorem e47.rf {S : ux_S} : e47 S S := ⟨rfl, fun _ _ => rfl⟩
theorem e47.up {S T : ux_S} {k : Nat} {v : Int32} (h : e47 S T) : e47 S (ux_i T 47 k v) := ⟨h.1, fun i hi => by rw [ux_i_ne hi]; exact h.2 i hi⟩
theorem e47.trans {S T U : ux_S} (h : e47 S T) (h2 : e47 T U) : e47 S U := ⟨h2.1.trans h.1, fun i hi => (h2.2 i hi).trans (h.2 i hi)⟩
theorem e47.sm {S T : ux_S} (h : e47 S T) : sm S T := ⟨fun i k q => by rw [h.2 i (by unfold PAll at q; omega)], h.1⟩
/-- the plugs' places -/
def plok (x : Int32) (nf : Nat) : Prop := x = -4 ∨ ∃ g, g < nf ∧ x = nI g
theorem t_gives {T : ux_S} {D : Nat → Bool} {nf : Nat} (h0 : nf ≤ 16) (h1 : T.1 5 4 = nI nf) {x : Int32} (hx : plok x nf) : f_X1_gives T x (nI (bset D nf)) = some (bi (lv D x), T) := by
  unfold f_X1_gives
  rw [t_has1 h1, ux_bi_s]
  rcases hx with rfl | ⟨g, hg, rfl⟩
  · have : hs (-4) nf = 0 := by unfold hs; rw [if_pos (Or.inl (by decide))]
    rw [this, if_pos rfl]; rfl
  · rw [hs_nI hg (by omega), if_neg (by decide), t_isIn T (bset_65536 D h0) (by omega), ux_bi_s, bset_bit]
    have hc : tn (nI g) = g := nI_clamp (by omega)
    have hm : ¬ nI g = -4 := nI_nm4 (by omega)
    unfold lv
    rw [hc]
    simp only [hg, hm, decide_true, decide_false, Bool.true_and, bi0, Bool.not_false]
    cases D g <;> simp [bi]
theorem lv_some {D : Nat → Bool} {x : Int32} {nf : Nat} (hx : plok x nf) (h : lv D x = true) : ∃ g, g < nf ∧ x = nI g := by
  rcases hx with rfl | h2
  · simp [lv] at h
  · exact h2
theorem t_drawFor {n : Nat} {T : ux_S} {D : Nat → Bool} {nf r : Nat} (h0 : nf ≤ 16) (h1 : T.1 5 4 = nI nf) (hr : r < 8) (hp0 : plok (T.1 45 r) nf) (hp1 : plok (T.1 46 r) nf) :
    ∃ U, f_X1_drawFor n T (nI r) (T.1 9 r) (nI (bset D nf)) = some U ∧ e47 T U ∧ ∀ g, g < nf → U.1 47 g = T.1 47 g + dr T D r g := by
  have hc := nI_clamp (n := r) (by omega)
  unfold f_X1_drawFor
  simp only [hc, ux_ibn (by omega : r < 8) (by omega), show ux_ib 0 2 = true by decide, show ux_ib 1 2 = true by decide, gdt]
  rw [show (44 + 1 + (0 : Int32).toNatClampNeg) = 45 by decide, show (44 + 1 + (1 : Int32).toNatClampNeg) = 46 by decide, t_gives h0 h1 hp0, ux_bi_s, t_gives h0 h1 hp1, ux_bi_s]
  have hd : ∀ g, dr T D r g = (if T.1 45 r = nI g then am T D 0 r else 0) + (if T.1 46 r = nI g then am T D 1 r else 0) := fun _ => rfl
  have q0 : am T D 0 r = if lv D (T.1 45 r) then (if lv D (T.1 46 r) then T.1 9 r - T.1 9 r / 2 else T.1 9 r) else 0 := rfl
  have q1 : am T D 1 r = if lv D (T.1 46 r) then (if lv D (T.1 45 r) then T.1 9 r / 2 else T.1 9 r) else 0 := rfl
  -- the second plug, over any state
  have snd : ∀ U : ux_S, e47 T U → ∃ Z, b_X1_drawFor_71 n (nI r) (T.1 9 r) (nI (bset D nf)) (T.1 46 r) (bi (lv D (T.1 45 r))) (bi (lv D (T.1 46 r))) (T.1 9 r / 2) U = some Z ∧ e47 T Z ∧ ∀ g, g < nf → Z.1 47 g = U.1 47 g + (if T.1 46 r = nI g then am T D 1 r else 0) := by
    intro U hU
    unfold b_X1_drawFor_71
    cases l1 : lv D (T.1 46 r) with
    | false =>
      rw [if_pos (by rfl)]
      refine ⟨U, rfl, hU, fun g hg => ?_⟩
      rw [q1, l1]; simp
    | true =>
      obtain ⟨g1, hg1, e1⟩ := lv_some hp1 l1
      rw [if_neg (by decide), e1, ux_ibn (by omega : g1 < 16) (by omega)]
      simp only [gdt]
      rw [nI_clamp (by omega)]
      have fin : ∀ v, am T D 1 r = v → ∃ Z, some (ux_i U 47 g1 (U.1 47 g1 + v)) = some Z ∧ e47 T Z ∧ ∀ g, g < nf → Z.1 47 g = U.1 47 g + (if nI g1 = nI g then am T D 1 r else 0) := by
        intro v hv
        refine ⟨_, rfl, hU.up, fun g hg => ?_⟩
        rw [rd_if, hv]
        by_cases q : g = g1
        · subst q; simp
        · have : ¬ nI g1 = nI g := by rw [nI_eq (by omega) (by omega)]; omega
          simp [q, this]
      cases l0 : lv D (T.1 45 r) with
      | false => rw [if_pos (by rfl)]; exact fin _ (by rw [q1, l1, l0]; rfl)
      | true => rw [if_neg (by decide)]; exact fin _ (by rw [q1, l1, l0]; rfl)
  cases l0 : lv D (T.1 45 r) with
  | false =>
    rw [if_pos (by rfl)]
    rw [l0] at snd
    obtain ⟨Z, z1, z2, z3⟩ := snd T e47.rf
    refine ⟨Z, z1, z2, fun g hg => ?_⟩
    rw [z3 g hg, hd g, q0, l0]; simp
  | true =>
    obtain ⟨g0, hg0, e0⟩ := lv_some hp0 l0
    rw [if_neg (by decide), e0, ux_ibn (by omega : g0 < 16) (by omega)]
    rw [l0] at snd
    simp only [gdt]
    rw [nI_clamp (by omega)]
    have fin : ∀ v, am T D 0 r = v → ∃ U, b_X1_drawFor_69 n (nI r) (T.1 9 r) (nI (bset D nf)) (T.1 46 r) (bi true) (bi (lv D (T.1 46 r))) (T.1 9 r / 2) v (T.1 47 g0) (nI g0) T = some U ∧ e47 T U ∧ ∀ g, g < nf → U.1 47 g = T.1 47 g + dr T D r g := by
      intro v hv
      unfold b_X1_drawFor_69
      rw [ux_ibn (by omega : g0 < 16) (by omega), gdt, nI_clamp (by omega)]
      obtain ⟨Z, z1, z2, z3⟩ := snd (ux_i T 47 g0 (T.1 47 g0 + v)) e47.rf.up
      refine ⟨Z, z1, z2, fun g hg => ?_⟩
      rw [z3 g hg, hd g, rd_if, hv, e0, ← Int32.add_assoc]
      congr 1
      by_cases q : g = g0
      · subst q; simp
      · have : ¬ nI g0 = nI g := by rw [nI_eq (by omega) (by omega)]; omega
        simp [q, this]
    cases l1 : lv D (T.1 46 r) with
    | false => rw [if_pos (by rfl)]; rw [l1] at fin; exact fin _ (by rw [q0, l0, l1]; rfl)
    | true => rw [if_neg (by decide)]; rw [l1] at fin; exact fin _ (by rw [q0, l0, l1]; rfl)
theorem t_fill47 {n : Nat} (hn : 20 ≤ n) (S : ux_S) : ∃ Z, f_J7_fill_53178 n S 47 16 0 = some Z ∧ e47 S Z ∧ ∀ k, k < 16 → Z.1 47 k = 0 := by
  unfold f_J7_fill_53178
  have key : ∀ t m T, m ≤ 16 → 16 < m + t → (e47 S T ∧ ∀ k, k < m → T.1 47 k = 0) → ∃ Z, ux_lp2 (b_J7_fill_53178_5 n 47 16 0) t (nI m) (nI 16) T = some Z ∧ e47 S Z ∧ ∀ k, k < 16 → Z.1 47 k = 0 := by
    intro t
    induction t with
    | zero => intro m T h1 h2; omega
    | succ t ih =>
      intro m T h1 h2 h3
      show ∃ Z, b_J7_fill_53178_5 n 47 16 0 (ux_lp2 (b_J7_fill_53178_5 n 47 16 0) t) (nI m) (nI 16) T = some Z ∧ _
      generalize ux_lp2 (b_J7_fill_53178_5 n 47 16 0) t = K at ih ⊢
      unfold b_J7_fill_53178_5
      by_cases hm : m < 16
      · rw [if_neg (nI_ge hm (by omega)), ux_ibn hm (by omega), gdt, nI_clamp (by omega), nI_1]
        refine ih (m + 1) _ (by omega) (by omega) ⟨h3.1.up, fun k hk => ?_⟩
        rw [rd_if]
        by_cases q : k = m
        · rw [if_pos q]
        · rw [if_neg q]; exact h3.2 k (by omega)
      · have : m = 16 := by omega
        subst this
        rw [if_pos (nI_le (Nat.le_refl _) (by omega))]
        exact ⟨T, rfl, h3⟩
  exact key n 0 S (by omega) (by omega) ⟨e47.rf, fun k hk => by omega⟩
