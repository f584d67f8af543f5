/-! pure rows: states, guards, loops -/
theorem ux_i_row {S : ux_S} {i k : Nat} {v : Int32} : (ux_i S i k v).1 i = upd (S.1 i) k v := by simp [ux_i]
theorem ux_i_ne {S : ux_S} {i j k : Nat} {v : Int32} (h : j ≠ i) : (ux_i S i k v).1 j = S.1 j := by simp [ux_i, h]
theorem ux_i_same {S : ux_S} {i k : Nat} {v : Int32} : (ux_i S i k v).1 i k = v := by simp [ux_i, upd]
theorem ux_i_off {S : ux_S} {i k a b : Nat} {v : Int32} (h : i ≠ a ∨ k ≠ b) : (ux_i S a b v).1 i k = S.1 i k := by
  by_cases e : i = a
  · subst e
    rw [ux_i_row, pk_un]
    rcases h with h | h
    · exact absurd rfl h
    · exact h
  · rw [ux_i_ne e]
theorem ux_i_2 {S : ux_S} {i k : Nat} {v : Int32} : (ux_i S i k v).2 = S.2 := rfl
theorem ux_l_1 {S : ux_S} {i k : Nat} {v : Int64} : (ux_l S i k v).1 = S.1 := rfl
theorem ux_l_same {S : ux_S} {i k : Nat} {v : Int64} : (ux_l S i k v).2 i k = v := by simp [ux_l, vp_updL]
theorem ux_l_off {S : ux_S} {i k a b : Nat} {v : Int64} (h : i ≠ a ∨ k ≠ b) : (ux_l S a b v).2 i k = S.2 i k := by
  by_cases e : i = a
  · subst e
    rcases h with h | h
    · exact absurd rfl h
    · simp [ux_l, vp_updL, h]
  · simp [ux_l, e]
theorem ux_gd_t {α : Type} {b : Bool} {x : Option α} (h : b = true) : ux_gd b x = x := by rw [h]; rfl
theorem ux_bi_s {α β : Type} {r : β} {S : ux_S} {k : β → ux_S → Option α} : ux_bi (some (r, S)) k = k r S := rfl
theorem ux_bv_s {α : Type} {S : ux_S} {k : ux_S → Option α} : ux_bv (some S) k = k S := rfl
theorem ux_ibn {k n : Nat} (h : k < n) (hn : n < 2 ^ 31) : ux_ib (nI k) n = true := by
  have h1 := nI_clamp (n := k) (by omega)
  have h2 := nI_pos (n := k) (by omega)
  unfold ux_ib
  rw [h1]
  simp [h2, h]
theorem ux_nzn {k : Nat} (h0 : 0 < k) (h : k < 2 ^ 31) : ux_nz (nI k) = true := by
  have := nI_ne0 h0 h
  simp [ux_nz, this]
theorem ux_zb0 : ux_zb 0 = true := by decide
theorem ux_zb1 : ux_zb 1 = true := by decide
theorem ux_nar0 : vp_nar .boolean 0 = 0 := by decide
theorem ux_nar1 : vp_nar .boolean 1 = 1 := by decide
/-! counting loops: the counter is the last int -/
theorem ux_lpi1 {α : Type} {b : (Int32 → ux_S → Option α) → Int32 → ux_S → Option α} (N : Nat) (Inv : Nat → ux_S → Prop) (R : Option α → Prop)
    (hs : ∀ m S, m < N → Inv m S → ∀ k : Int32 → ux_S → Option α, (∀ S', Inv (m + 1) S' → R (k (nI (m + 1)) S')) → R (b k (nI m) S))
    (he : ∀ S, Inv N S → ∀ k : Int32 → ux_S → Option α, R (b k (nI N) S)) : ∀ t m S, m ≤ N → N < m + t → Inv m S → R (ux_lp1 b t (nI m) S) := by
  intro t
  induction t with
  | zero => intro m S h1 h2; omega
  | succ t ih =>
    intro m S h1 h2 h3
    show R (b (ux_lp1 b t) (nI m) S)
    by_cases h : m < N
    · exact hs m S h h3 _ (fun S' h4 => ih (m + 1) S' (by omega) (by omega) h4)
    · have : m = N := by omega
      subst this
      exact he S h3 _
theorem ux_lpi2 {α : Type} {b : (Int32 → Int32 → ux_S → Option α) → Int32 → Int32 → ux_S → Option α} (N : Nat) (Inv : Nat → Int32 → ux_S → Prop) (R : Option α → Prop)
    (hs : ∀ m x S, m < N → Inv m x S → ∀ k : Int32 → Int32 → ux_S → Option α, (∀ x' S', Inv (m + 1) x' S' → R (k x' (nI (m + 1)) S')) → R (b k x (nI m) S))
    (he : ∀ x S, Inv N x S → ∀ k : Int32 → Int32 → ux_S → Option α, R (b k x (nI N) S)) : ∀ t m x S, m ≤ N → N < m + t → Inv m x S → R (ux_lp2 b t x (nI m) S) := by
  intro t
  induction t with
  | zero => intro m x S h1 h2; omega
  | succ t ih =>
    intro m x S h1 h2 h3
    show R (b (ux_lp2 b t) x (nI m) S)
    by_cases h : m < N
    · exact hs m x S h h3 _ (fun x' S' h4 => ih (m + 1) x' S' (by omega) (by omega) h4)
    · have : m = N := by omega
      subst this
      exact he x S h3 _
theorem ux_lpi3 {α : Type} {b : (Int32 → Int32 → Int32 → ux_S → Option α) → Int32 → Int32 → Int32 → ux_S → Option α} (N : Nat) (Inv : Nat → Int32 → Int32 → ux_S → Prop) (R : Option α → Prop)
    (hs : ∀ m x y S, m < N → Inv m x y S → ∀ k : Int32 → Int32 → Int32 → ux_S → Option α, (∀ x' y' S', Inv (m + 1) x' y' S' → R (k x' y' (nI (m + 1)) S')) → R (b k x y (nI m) S))
    (he : ∀ x y S, Inv N x y S → ∀ k : Int32 → Int32 → Int32 → ux_S → Option α, R (b k x y (nI N) S)) : ∀ t m x y S, m ≤ N → N < m + t → Inv m x y S → R (ux_lp3 b t x y (nI m) S) := by
  intro t
  induction t with
  | zero => intro m x y S h1 h2; omega
  | succ t ih =>
    intro m x y S h1 h2 h3
    show R (b (ux_lp3 b t) x y (nI m) S)
    by_cases h : m < N
    · exact hs m x y S h h3 _ (fun x' y' S' h4 => ih (m + 1) x' y' S' (by omega) (by omega) h4)
    · have : m = N := by omega
      subst this
      exact he x y S h3 _
theorem ux_lpi4 {α : Type} {b : (Int32 → Int32 → Int32 → Int32 → ux_S → Option α) → Int32 → Int32 → Int32 → Int32 → ux_S → Option α} (N : Nat) (Inv : Nat → Int32 → Int32 → Int32 → ux_S → Prop) (R : Option α → Prop)
    (hs : ∀ m x y z S, m < N → Inv m x y z S → ∀ k : Int32 → Int32 → Int32 → Int32 → ux_S → Option α, (∀ x' y' z' S', Inv (m + 1) x' y' z' S' → R (k x' y' z' (nI (m + 1)) S')) → R (b k x y z (nI m) S))
    (he : ∀ x y z S, Inv N x y z S → ∀ k : Int32 → Int32 → Int32 → Int32 → ux_S → Option α, R (b k x y z (nI N) S)) : ∀ t m x y z S, m ≤ N → N < m + t → Inv m x y z S → R (ux_lp4 b t x y z (nI m) S) := by
  intro t
  induction t with
  | zero => intro m x y z S h1 h2; omega
  | succ t ih =>
    intro m x y z S h1 h2 h3
    show R (b (ux_lp4 b t) x y z (nI m) S)
    by_cases h : m < N
    · exact hs m x y z S h h3 _ (fun x' y' z' S' h4 => ih (m + 1) x' y' z' S' (by omega) (by omega) h4)
    · have : m = N := by omega
      subst this
      exact he x y z S h3 _
theorem ux_lpi5 {α : Type} {b : (Int32 → Int32 → Int32 → Int32 → Int32 → ux_S → Option α) → Int32 → Int32 → Int32 → Int32 → Int32 → ux_S → Option α} (N : Nat) (Inv : Nat → Int32 → Int32 → Int32 → Int32 → ux_S → Prop) (R : Option α → Prop)
    (hs : ∀ m x y z w S, m < N → Inv m x y z w S → ∀ k : Int32 → Int32 → Int32 → Int32 → Int32 → ux_S → Option α, (∀ x' y' z' w' S', Inv (m + 1) x' y' z' w' S' → R (k x' y' z' w' (nI (m + 1)) S')) → R (b k x y z w (nI m) S))
    (he : ∀ x y z w S, Inv N x y z w S → ∀ k : Int32 → Int32 → Int32 → Int32 → Int32 → ux_S → Option α, R (b k x y z w (nI N) S)) : ∀ t m x y z w S, m ≤ N → N < m + t → Inv m x y z w S → R (ux_lp5 b t x y z w (nI m) S) := by
  intro t
  induction t with
  | zero => intro m x y z w S h1 h2; omega
  | succ t ih =>
    intro m x y z w S h1 h2 h3
    show R (b (ux_lp5 b t) x y z w (nI m) S)
    by_cases h : m < N
    · exact hs m x y z w S h h3 _ (fun x' y' z' w' S' h4 => ih (m + 1) x' y' z' w' S' (by omega) (by omega) h4)
    · have : m = N := by omega
      subst this
      exact he x y z w S h3 _
theorem ux_lpi6 {α : Type} {b : (Int32 → Int32 → Int32 → Int32 → Int32 → Int32 → ux_S → Option α) → Int32 → Int32 → Int32 → Int32 → Int32 → Int32 → ux_S → Option α} (N : Nat) (Inv : Nat → Int32 → Int32 → Int32 → Int32 → Int32 → ux_S → Prop) (R : Option α → Prop)
    (hs : ∀ m x y z w v S, m < N → Inv m x y z w v S → ∀ k : Int32 → Int32 → Int32 → Int32 → Int32 → Int32 → ux_S → Option α, (∀ x' y' z' w' v' S', Inv (m + 1) x' y' z' w' v' S' → R (k x' y' z' w' v' (nI (m + 1)) S')) → R (b k x y z w v (nI m) S))
    (he : ∀ x y z w v S, Inv N x y z w v S → ∀ k : Int32 → Int32 → Int32 → Int32 → Int32 → Int32 → ux_S → Option α, R (b k x y z w v (nI N) S)) : ∀ t m x y z w v S, m ≤ N → N < m + t → Inv m x y z w v S → R (ux_lp6 b t x y z w v (nI m) S) := by
  intro t
  induction t with
  | zero => intro m x y z w v S h1 h2; omega
  | succ t ih =>
    intro m x y z w v S h1 h2 h3
    show R (b (ux_lp6 b t) x y z w v (nI m) S)
    by_cases h : m < N
    · exact hs m x y z w v S h h3 _ (fun x' y' z' w' v' S' h4 => ih (m + 1) x' y' z' w' v' S' (by omega) (by omega) h4)
    · have : m = N := by omega
      subst this
      exact he x y z w v S h3 _
/-! ranges, and the relation of the class's part of the state and the reference's -/
def rg (a b : Int) (x : Int32) : Prop := a ≤ x.toInt ∧ x.toInt ≤ b
def RHall (S : ux_S) (nr : Nat) : Prop := nr ≤ 8 ∧ S.1 1 5 = nI nr ∧ S.1 8 0 = nI nr ∧
  (∀ i, i < nr → (S.1 54 i = S.1 9 i ∧ rg 0 1000 (S.1 9 i)) ∧ (S.1 55 i = S.1 10 i ∧ rg 10000 60000 (S.1 10 i)) ∧ (S.1 56 i = S.1 11 i ∧ rg 1 1000 (S.1 11 i)) ∧ (S.1 57 i = S.1 12 i ∧ rg 0 20 (S.1 12 i))) ∧
  (∀ j i, j < 8 → i < 8 → S.1 58 (8 * j + i) = S.1 (14 + j) i ∧ rg 0 200 (S.1 (14 + j) i)) ∧
  (S.1 8 6 = S.1 1 6 ∧ rg 10 30 (S.1 1 6)) ∧ (S.1 8 7 = S.1 1 7 ∧ rg 1 5 (S.1 1 7))
def RPrices (S : ux_S) : Prop := (S.1 8 9 = S.1 2 1 ∧ rg 0 100 (S.1 2 1)) ∧ ∀ k, k < 21 → S.1 59 k = S.1 22 k ∧ rg 0 1000 (S.1 22 k)
def RMach (S : ux_S) (nm : Nat) : Prop := nm ≤ 5 ∧ S.1 3 2 = nI nm ∧ S.1 8 10 = nI nm ∧ ∀ i, i < nm → (S.1 60 i = S.1 23 i ∧ rg 1 300 (S.1 23 i)) ∧ (S.1 61 i = S.1 24 i ∧ rg 1 10 (S.1 24 i))
def RSheet (S : ux_S) : Prop := ∀ k, k < 4 → ((S.1 41 k = -1 ∧ S.1 63 k = -4) ∨ ∃ sz, sz ≤ 64 ∧ S.1 41 k = nI sz ∧ S.1 64 k = nI sz ∧ S.1 63 k = S.1 40 k ∧ rg 0 2 (S.1 40 k)) ∧ ∀ i, i < 64 → S.2 65 (64 * k + i) = S.2 (36 + k) i
def RFeed (S : ux_S) (nf nr : Nat) : Prop := nf ≤ 16 ∧ S.1 5 4 = nI nf ∧ S.1 8 22 = nI nf ∧ S.1 8 27 = -4 ∧
  (∀ f, f < nf → (S.1 69 f = S.1 42 f ∧ (S.1 42 f = -4 ∨ ∃ g, g < f ∧ S.1 42 f = nI g)) ∧ (S.1 70 f = S.1 43 f ∧ rg 0 10000 (S.1 43 f))) ∧
  (∃ F : Nat, F < 65536 ∧ S.1 5 5 = nI F ∧ ∀ f, f < 16 → S.1 71 f = (if F.testBit f then 1 else 0) ∧ (nf ≤ f → F.testBit f = false)) ∧
  (∀ r w, r < 8 → w < 2 → (r < nr → S.1 72 (2 * r + w) = S.1 (45 + w) r) ∧ (S.1 (45 + w) r = -4 ∨ (r < nr ∧ ∃ g, g < nf ∧ S.1 (45 + w) r = nI g)))
def RAlarm (S : ux_S) (nc : Nat) : Prop := nc ≤ 10 ∧ S.1 6 1 = nI nc ∧ S.1 8 28 = nI nc ∧ (∀ c, c < nc → S.1 73 c = S.1 48 c ∧ rg 1 65535 (S.1 48 c)) ∧ (S.1 8 30 = S.1 6 2 ∧ rg 0 65535 (S.1 6 2))
def RMet (S : ux_S) (nt : Nat) : Prop := nt ≤ 12 ∧ S.1 7 5 = nI nt ∧ S.1 8 31 = nI nt ∧
  (∀ m, m < nt → S.1 74 m = S.1 49 m ∧ (S.1 49 m = -4 ∨ ∃ g, g < m ∧ S.1 49 m = nI g) ∧ S.1 75 m = S.1 50 m) ∧
  (∀ m, m < 12 → (S.1 50 m = 0 ∨ S.1 50 m = 1) ∧ S.1 76 m = S.1 51 m ∧ (nt ≤ m → S.1 50 m = 0))
def Rel (S : ux_S) : Prop := ∃ nr nm nf nc nt, RHall S nr ∧ RPrices S ∧ RMach S nm ∧ RSheet S ∧ RFeed S nf nr ∧ RAlarm S nc ∧ RMet S nt
/-! which cells each part reads -/
def PHall (i k : Nat) : Prop := (i = 1 ∧ 5 ≤ k) ∨ (i = 8 ∧ (k = 0 ∨ k = 6 ∨ k = 7)) ∨ (9 ≤ i ∧ i ≤ 12) ∨ (14 ≤ i ∧ i ≤ 21) ∨ (54 ≤ i ∧ i ≤ 58)
def PPrices (i k : Nat) : Prop := (i = 8 ∧ k = 9) ∨ (i = 2 ∧ k = 1) ∨ i = 59 ∨ i = 22
def PMach (i k : Nat) : Prop := (i = 3 ∧ k = 2) ∨ (i = 8 ∧ k = 10) ∨ i = 60 ∨ i = 61 ∨ i = 23 ∨ i = 24
def PSheet (i k : Nat) : Prop := i = 41 ∨ i = 63 ∨ i = 64 ∨ i = 40
def PFeed (i k : Nat) : Prop := (i = 5 ∧ (k = 4 ∨ k = 5)) ∨ (i = 8 ∧ (k = 22 ∨ k = 27)) ∨ i = 69 ∨ i = 42 ∨ i = 70 ∨ i = 43 ∨ i = 71 ∨ i = 72 ∨ i = 45 ∨ i = 46
def PAlarm (i k : Nat) : Prop := (i = 6 ∧ (k = 1 ∨ k = 2)) ∨ (i = 8 ∧ (k = 28 ∨ k = 30)) ∨ i = 73 ∨ i = 48
def PMet (i k : Nat) : Prop := (i = 7 ∧ k = 5) ∨ (i = 8 ∧ k = 31) ∨ i = 74 ∨ i = 49 ∨ i = 75 ∨ i = 50 ∨ i = 76 ∨ i = 51
def ag (P : Nat → Nat → Prop) (S Z : ux_S) : Prop := ∀ i k, P i k → Z.1 i k = S.1 i k
theorem ag.trans {P : Nat → Nat → Prop} {A B C : ux_S} (h1 : ag P A B) (h2 : ag P B C) : ag P A C := fun i k h => (h2 i k h).trans (h1 i k h)
theorem ag.rf {P : Nat → Nat → Prop} {A : ux_S} : ag P A A := fun _ _ _ => rfl
theorem ag.up {P : Nat → Nat → Prop} {A B : ux_S} {a b : Nat} {v : Int32} (h : ag P A B) (hn : ∀ i k, P i k → i ≠ a ∨ k ≠ b) : ag P A (ux_i B a b v) := fun i k q => (ux_i_off (hn i k q)).trans (h i k q)
theorem RHall.cong {S Z : ux_S} {nr : Nat} (h : RHall S nr) (g : ag PHall S Z) : RHall Z nr := by
  obtain ⟨h0, h1, h2, h3, h4, h5, h6⟩ := h
  refine ⟨h0, ?_, ?_, fun i hi => ?_, fun j i hj hi => ?_, ?_, ?_⟩
  · rw [g 1 5 (by unfold PHall; omega)]; exact h1
  · rw [g 8 0 (by unfold PHall; omega)]; exact h2
  · rw [g 54 i (by unfold PHall; omega), g 55 i (by unfold PHall; omega), g 56 i (by unfold PHall; omega), g 57 i (by unfold PHall; omega), g 9 i (by unfold PHall; omega), g 10 i (by unfold PHall; omega), g 11 i (by unfold PHall; omega), g 12 i (by unfold PHall; omega)]; exact h3 i hi
  · rw [g 58 _ (by unfold PHall; omega), g (14 + j) i (by unfold PHall; omega)]; exact h4 j i hj hi
  · rw [g 8 6 (by unfold PHall; omega), g 1 6 (by unfold PHall; omega)]; exact h5
  · rw [g 8 7 (by unfold PHall; omega), g 1 7 (by unfold PHall; omega)]; exact h6
theorem RPrices.cong {S Z : ux_S} (h : RPrices S) (g : ag PPrices S Z) : RPrices Z := by
  refine ⟨?_, fun k hk => ?_⟩
  · rw [g 8 9 (by unfold PPrices; omega), g 2 1 (by unfold PPrices; omega)]; exact h.1
  · rw [g 59 k (by unfold PPrices; omega), g 22 k (by unfold PPrices; omega)]; exact h.2 k hk
theorem RMach.cong {S Z : ux_S} {nm : Nat} (h : RMach S nm) (g : ag PMach S Z) : RMach Z nm := by
  obtain ⟨h0, h1, h2, h3⟩ := h
  refine ⟨h0, ?_, ?_, fun i hi => ?_⟩
  · rw [g 3 2 (by unfold PMach; omega)]; exact h1
  · rw [g 8 10 (by unfold PMach; omega)]; exact h2
  · rw [g 60 i (by unfold PMach; omega), g 61 i (by unfold PMach; omega), g 23 i (by unfold PMach; omega), g 24 i (by unfold PMach; omega)]; exact h3 i hi
theorem RSheet.cong {S Z : ux_S} (h : RSheet S) (g : ag PSheet S Z) (g2 : Z.2 = S.2) : RSheet Z := by
  intro k hk
  rw [g 41 k (by unfold PSheet; omega), g 63 k (by unfold PSheet; omega), g 64 k (by unfold PSheet; omega), g 40 k (by unfold PSheet; omega), g2]
  exact h k hk
theorem RFeed.cong {S Z : ux_S} {nf nr : Nat} (h : RFeed S nf nr) (g : ag PFeed S Z) : RFeed Z nf nr := by
  obtain ⟨h0, h1, h2, h3, h4, ⟨F, f1, f2, f3⟩, h6⟩ := h
  refine ⟨h0, ?_, ?_, ?_, fun f hf => ?_, ⟨F, f1, ?_, fun f hf => ?_⟩, fun r w hr hw => ?_⟩
  · rw [g 5 4 (by unfold PFeed; omega)]; exact h1
  · rw [g 8 22 (by unfold PFeed; omega)]; exact h2
  · rw [g 8 27 (by unfold PFeed; omega)]; exact h3
  · rw [g 69 f (by unfold PFeed; omega), g 42 f (by unfold PFeed; omega), g 70 f (by unfold PFeed; omega), g 43 f (by unfold PFeed; omega)]; exact h4 f hf
  · rw [g 5 5 (by unfold PFeed; omega)]; exact f2
  · rw [g 71 f (by unfold PFeed; omega)]; exact f3 f hf
  · rw [g 72 _ (by unfold PFeed; omega), g (45 + w) r (by unfold PFeed; omega)]; exact h6 r w hr hw
theorem RAlarm.cong {S Z : ux_S} {nc : Nat} (h : RAlarm S nc) (g : ag PAlarm S Z) : RAlarm Z nc := by
  obtain ⟨h0, h1, h2, h3, h4⟩ := h
  refine ⟨h0, ?_, ?_, fun i hi => ?_, ?_⟩
  · rw [g 6 1 (by unfold PAlarm; omega)]; exact h1
  · rw [g 8 28 (by unfold PAlarm; omega)]; exact h2
  · rw [g 73 i (by unfold PAlarm; omega), g 48 i (by unfold PAlarm; omega)]; exact h3 i hi
  · rw [g 8 30 (by unfold PAlarm; omega), g 6 2 (by unfold PAlarm; omega)]; exact h4
theorem RMet.cong {S Z : ux_S} {nt : Nat} (h : RMet S nt) (g : ag PMet S Z) : RMet Z nt := by
  obtain ⟨h0, h1, h2, h3, h4⟩ := h
  refine ⟨h0, ?_, ?_, fun i hi => ?_, fun i hi => ?_⟩
  · rw [g 7 5 (by unfold PMet; omega)]; exact h1
  · rw [g 8 31 (by unfold PMet; omega)]; exact h2
  · rw [g 74 i (by unfold PMet; omega), g 49 i (by unfold PMet; omega), g 75 i (by unfold PMet; omega), g 50 i (by unfold PMet; omega)]; exact h3 i hi
  · rw [g 50 i (by unfold PMet; omega), g 76 i (by unfold PMet; omega), g 51 i (by unfold PMet; omega)]; exact h4 i hi
/-! cells that hold nothing between two calls -/
def PAll (i k : Nat) : Prop := ¬ (i = 25 ∨ i = 26 ∨ i = 27 ∨ (29 ≤ i ∧ i ≤ 34) ∨ i = 47 ∨ i = 52 ∨ i = 53 ∨ i = 62 ∨ i = 66 ∨ i = 67 ∨ i = 68 ∨ i = 77 ∨ i = 78 ∨ (i = 3 ∧ k = 7) ∨ (i = 8 ∧ (k = 19 ∨ k = 20 ∨ k = 37)))
def sm (S Z : ux_S) : Prop := ag PAll S Z ∧ Z.2 = S.2
theorem sm.rf {S : ux_S} : sm S S := ⟨ag.rf, rfl⟩
theorem sm.trans {A B C : ux_S} (h1 : sm A B) (h2 : sm B C) : sm A C := ⟨h1.1.trans h2.1, h2.2.trans h1.2⟩
theorem Rel.sm {S Z : ux_S} (h : Rel S) (g : sm S Z) : Rel Z := by
  obtain ⟨nr, nm, nf, nc, nt, h1, h2, h3, h4, h5, h6, h7⟩ := h
  exact ⟨nr, nm, nf, nc, nt, h1.cong (fun i k q => g.1 i k (by unfold PHall at q; unfold PAll; omega)), h2.cong (fun i k q => g.1 i k (by unfold PPrices at q; unfold PAll; omega)), h3.cong (fun i k q => g.1 i k (by unfold PMach at q; unfold PAll; omega)), h4.cong (fun i k q => g.1 i k (by unfold PSheet at q; unfold PAll; omega)) g.2, h5.cong (fun i k q => g.1 i k (by unfold PFeed at q; unfold PAll; omega)), h6.cong (fun i k q => g.1 i k (by unfold PAlarm at q; unfold PAll; omega)), h7.cong (fun i k q => g.1 i k (by unfold PMet at q; unfold PAll; omega))⟩
theorem sm.up {A B : ux_S} {a b : Nat} {v : Int32} (h : sm A B) (hn : ¬ PAll a b) : sm A (ux_i B a b v) := ⟨h.1.up (fun i k q => by
  by_cases e : i = a
  · by_cases e2 : k = b
    · subst e; subst e2; exact absurd q hn
    · exact Or.inr e2
  · exact Or.inl e), h.2⟩
/-! a call answers alike on both sides, and the relation holds again -/
def alike (f g : ux_S → Option (Int32 × ux_S)) : Prop := ∀ S, Rel S → ∃ r A B, f S = some (r, A) ∧ g A = some (r, B) ∧ Rel B
