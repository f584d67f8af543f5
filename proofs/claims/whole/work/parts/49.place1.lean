/-! placings: the tree of all ways -/
def fd {α : Type} (f : Nat → α → α) : Nat → α → α
  | 0, a => a
  | n + 1, a => f n (fd f n a)
theorem fd_cong {α : Type} {f g : Nat → α → α} : ∀ n a, (∀ k, k < n → ∀ a, f k a = g k a) → fd f n a = fd g n a
  | 0, _, _ => rfl
  | n + 1, a, h => by
    show f n (fd f n a) = g n (fd g n a)
    rw [fd_cong n a (fun k hk => h k (by omega)), h n (by omega)]
theorem fd_add {α : Type} (f : Nat → α → α) (m : Nat) : ∀ n a, fd f (m + n) a = fd (fun k => f (m + k)) n (fd f m a)
  | 0, _ => rfl
  | n + 1, a => by
    show f (m + n) (fd f (m + n) a) = f (m + n) (fd (fun k => f (m + k)) n (fd f m a))
    rw [fd_add f m n a]
theorem fd_mul {α : Type} (f : Nat → α → α) (q : Nat) : ∀ k a, fd f (k * q) a = fd (fun r a => fd (fun w a => f (r * q + w) a) q a) k a
  | 0, a => by rw [Nat.zero_mul]; rfl
  | k + 1, a => by
    rw [Nat.succ_mul, fd_add, fd_mul f q k a]
    rfl
theorem fd_id {α : Type} {f : Nat → α → α} {a : α} : ∀ n, (∀ k, k < n → f k a = a) → fd f n a = a
  | 0, _ => rfl
  | n + 1, h => by
    show f n (fd f n a) = a
    rw [fd_id n (fun k hk => h k (by omega)), h n (by omega)]
theorem fd_hom {α β : Type} {f : Nat → α → α} {g : Nat → β → β} (h : α → β) : ∀ n a, (∀ k, k < n → ∀ a, h (f k a) = g k (h a)) → h (fd f n a) = fd g n (h a)
  | 0, _, _ => rfl
  | n + 1, a, hh => by
    show h (f n (fd f n a)) = g n (fd g n (h a))
    rw [hh n (by omega), fd_hom h n a (fun k hk => hh k (by omega))]
abbrev RW : Type := Nat → Nat
def st (row : RW) (m r : Nat) : RW := fun k => if k = m then r else row k
theorem st_at (row : RW) (m r : Nat) : st row m r m = r := by simp [st]
theorem st_ne {row : RW} {m r k : Nat} (h : k ≠ m) : st row m r k = row k := by simp [st, h]
/-- all ways, tried one after another -/
def TA {α : Type} (nr : Nat) (leaf : RW → α → α) : Nat → Nat → RW → α → α
  | 0, _, row, a => leaf row a
  | t + 1, m, row, a => fd (fun r a => TA nr leaf t (m + 1) (st row m r) a) nr a
/-- only those that fit so far -/
def TC {α : Type} (nr : Nat) (ok : Nat → RW → Bool) (leaf : RW → α → α) : Nat → Nat → RW → α → α
  | 0, _, row, a => leaf row a
  | t + 1, m, row, a => fd (fun r a => if ok m (st row m r) then TC nr ok leaf t (m + 1) (st row m r) a else a) nr a
/-- the way of number w -/
def rwd (nr : Nat) : Nat → Nat → RW → Nat → RW
  | 0, _, row, _ => row
  | t + 1, m, row, w => rwd nr t (m + 1) (st row m (w / nr ^ t)) (w % nr ^ t)
theorem TA_ways {α : Type} {nr : Nat} (leaf : RW → α → α) : ∀ t m row a, fd (fun w a => leaf (rwd nr t m row w) a) (nr ^ t) a = TA nr leaf t m row a
  | 0, m, row, a => rfl
  | t + 1, m, row, a => by
    rw [Nat.pow_succ, Nat.mul_comm, fd_mul]
    show _ = fd (fun r a => TA nr leaf t (m + 1) (st row m r) a) nr a
    refine fd_cong nr a (fun r hr a => ?_)
    rw [← TA_ways leaf t (m + 1) (st row m r) a]
    refine fd_cong _ a (fun w hw a => ?_)
    show leaf (rwd nr t (m + 1) (st row m ((r * nr ^ t + w) / nr ^ t)) ((r * nr ^ t + w) % nr ^ t)) a = _
    rw [Nat.mul_comm r, Nat.mul_add_div (by omega), Nat.div_eq_of_lt hw, Nat.mul_add_mod, Nat.mod_eq_of_lt hw]
    rfl
theorem rwd_val {nr : Nat} (hr : 0 < nr) : ∀ t m row w k, w < nr ^ t → rwd nr t m row w k = if m ≤ k ∧ k < m + t then w / nr ^ (m + t - 1 - k) % nr else row k
  | 0, m, row, w, k, _ => by rw [if_neg (by omega)]; rfl
  | t + 1, m, row, w, k, hw => by
    have hp : 0 < nr ^ t := Nat.pow_pos hr
    show rwd nr t (m + 1) (st row m (w / nr ^ t)) (w % nr ^ t) k = _
    rw [rwd_val hr t (m + 1) _ _ k (Nat.mod_lt _ hp)]
    by_cases q : k = m
    · subst q
      rw [if_neg (by omega), if_pos (by omega), st_at, show k + (t + 1) - 1 - k = t by omega, Nat.mod_eq_of_lt]
      rw [Nat.div_lt_iff_lt_mul hp]
      rw [Nat.pow_succ, Nat.mul_comm] at hw
      exact hw
    · by_cases q2 : m + 1 ≤ k ∧ k < m + 1 + t
      · rw [if_pos q2, if_pos (by omega)]
        obtain ⟨j, hj⟩ : ∃ j, m + 1 + t - 1 - k = j := ⟨_, rfl⟩
        have hjt : j < t := by omega
        rw [show m + (t + 1) - 1 - k = j by omega, hj]
        obtain ⟨d, hd⟩ : ∃ d, t = j + (d + 1) := ⟨t - j - 1, by omega⟩
        rw [hd, Nat.pow_add, Nat.mod_mul_right_div_self, Nat.mod_mod_of_dvd]
        exact ⟨nr ^ d, by rw [Nat.pow_succ, Nat.mul_comm]⟩
      · rw [if_neg q2, if_neg (by omega), st_ne q]
theorem TA_TC {α : Type} {nr nm : Nat} {ok : Nat → RW → Bool} (hok : ∀ k row row', (∀ i, i ≤ k → row i = row' i) → ok k row = ok k row') {leaf : RW → α → α} : ∀ t m row a, m + t = nm →
    TA nr (fun row a => if ex (fun k => !ok k row) nm then a else leaf row a) t m row a = if ex (fun k => !ok k row) m then a else TC nr ok leaf t m row a
  | 0, m, row, a, h => by
    have : m = nm := by omega
    subst this
    rfl
  | t + 1, m, row, a, h => by
    show fd (fun r a => TA nr (fun row a => if ex (fun k => !ok k row) nm then a else leaf row a) t (m + 1) (st row m r) a) nr a = _
    have key : ∀ r, r < nr → ∀ a, TA nr (fun row a => if ex (fun k => !ok k row) nm then a else leaf row a) t (m + 1) (st row m r) a = if ex (fun k => !ok k row) m then a else (if ok m (st row m r) then TC nr ok leaf t (m + 1) (st row m r) a else a) := by
      intro r hr a
      rw [TA_TC hok t (m + 1) (st row m r) a (by omega), ex_s]
      have e : ex (fun k => !ok k (st row m r)) m = ex (fun k => !ok k row) m := ex_cong (fun k hk => by rw [hok k (st row m r) row (fun i hi => st_ne (by omega))])
      rw [e]
      cases ex (fun k => !ok k row) m
      · cases ok m (st row m r) <;> simp
      · simp
    rw [fd_cong nr a key]
    cases ex (fun k => !ok k row) m
    · rfl
    · exact fd_id nr (fun k _ => rfl)
theorem TC_hom {α β : Type} {nr : Nat} {ok : Nat → RW → Bool} {l1 : RW → α → α} {l2 : RW → β → β} (h : α → β) (hl : ∀ row a, h (l1 row a) = l2 row (h a)) : ∀ t m row a, h (TC nr ok l1 t m row a) = TC nr ok l2 t m row (h a)
  | 0, m, row, a => hl row a
  | t + 1, m, row, a => by
    refine fd_hom h nr a (fun r hr a => ?_)
    cases ok m (st row m r)
    · rfl
    · exact TC_hom h hl t (m + 1) (st row m r) a
/-- how many -/
def CN (nr : Nat) (ok : Nat → RW → Bool) : Nat → Nat → RW → Nat
  | 0, _, _ => 1
  | t + 1, m, row => fb_sm (fun r => if ok m (st row m r) then CN nr ok t (m + 1) (st row m r) else 0) nr
theorem TC_cn {nr : Nat} {ok : Nat → RW → Bool} : ∀ t m row a, TC nr ok (fun _ a => a + 1) t m row a = a + CN nr ok t m row
  | 0, m, row, a => rfl
  | t + 1, m, row, a => by
    show fd (fun r a => if ok m (st row m r) then TC nr ok (fun _ a => a + 1) t (m + 1) (st row m r) a else a) nr a = a + fb_sm (fun r => if ok m (st row m r) then CN nr ok t (m + 1) (st row m r) else 0) nr
    have key : ∀ N, fd (fun r a => if ok m (st row m r) then TC nr ok (fun _ a => a + 1) t (m + 1) (st row m r) a else a) N a = a + fb_sm (fun r => if ok m (st row m r) then CN nr ok t (m + 1) (st row m r) else 0) N := by
      intro N
      induction N with
      | zero => rfl
      | succ N ih =>
        show (if ok m (st row m N) then TC nr ok (fun _ a => a + 1) t (m + 1) (st row m N) (fd _ N a) else fd _ N a) = _
        rw [ih, fb_sm_succ, TC_cn t (m + 1) (st row m N)]
        cases ok m (st row m N) <;> simp <;> omega
    exact key nr
theorem CN_le {nr : Nat} {ok : Nat → RW → Bool} : ∀ t m row, CN nr ok t m row ≤ nr ^ t
  | 0, _, _ => Nat.le_refl _
  | t + 1, m, row => by
    show fb_sm _ nr ≤ _
    rw [Nat.pow_succ, Nat.mul_comm]
    refine fb_sm_bound (fun r hr => ?_)
    cases ok m (st row m r)
    · exact Nat.zero_le _
    · exact CN_le t (m + 1) (st row m r)
/-- the numbers of one hall -/
def usd (pl : Nat → Nat) (row : RW) (m r : Nat) : Nat := fb_sm (fun k => if row k = r then pl k else 0) m
def okA (P pl : Nat → Nat) (m : Nat) (row : RW) : Bool := decide (usd pl row m (row m) + pl m ≤ P (row m))
theorem usd_cong {pl : Nat → Nat} {row row' : RW} {m r : Nat} (h : ∀ i, i < m → row i = row' i) : usd pl row m r = usd pl row' m r := fb_sm_cong (fun k hk => by rw [h k hk])
theorem okA_cong {P pl : Nat → Nat} (k : Nat) (row row' : RW) (h : ∀ i, i ≤ k → row i = row' i) : okA P pl k row = okA P pl k row' := by
  unfold okA
  rw [h k (Nat.le_refl _), usd_cong (fun i hi => h i (by omega))]
/-- what is given at j by the hall and the first m machines -/
def gvn (g0 : Nat → Nat) (ml : Nat → Nat) (sh : Nat → Nat → Nat) (row : RW) (m j : Nat) : Nat := g0 j + fb_sm (fun k => ml k * sh j (row k)) m
theorem gvn_cong {g0 ml : Nat → Nat} {sh : Nat → Nat → Nat} {row row' : RW} {m j : Nat} (h : ∀ i, i < m → row i = row' i) : gvn g0 ml sh row m j = gvn g0 ml sh row' m j := by
  unfold gvn
  rw [fb_sm_cong (fun k hk => by rw [h k hk])]
def mx (g : Nat → Nat) : Nat → Nat
  | 0 => 0
  | n + 1 => if mx g n < g n then g n else mx g n
theorem mx_mono {g g' : Nat → Nat} : ∀ n, (∀ j, j < n → g j ≤ g' j) → mx g n ≤ mx g' n
  | 0, _ => Nat.le_refl _
  | n + 1, h => by
    have ih := mx_mono n (fun j hj => h j (by omega))
    have h2 := h n (by omega)
    unfold mx
    split <;> split <;> omega
theorem mx_le {g : Nat → Nat} {B : Nat} : ∀ n, (∀ j, j < n → g j ≤ B) → mx g n ≤ B
  | 0, _ => Nat.zero_le _
  | n + 1, h => by
    have ih := mx_le n (fun j hj => h j (by omega))
    have h2 := h n (by omega)
    unfold mx
    split <;> omega
def WG (av fv nr : Nat) (g : Nat → Nat) : Nat := 1000 * av + (mx g nr + fv - 1) / fv
theorem WG_mono {av fv nr : Nat} {g g' : Nat → Nat} (h : ∀ j, j < nr → g j ≤ g' j) : WG av fv nr g ≤ WG av fv nr g' := by
  unfold WG
  have := mx_mono nr h
  exact Nat.add_le_add_left (Nat.div_le_div_right (by omega)) _
theorem WG_cong {av fv nr : Nat} {g g' : Nat → Nat} (h : ∀ j, j < nr → g j = g' j) : WG av fv nr g = WG av fv nr g' := Nat.le_antisymm (WG_mono (fun j hj => by rw [h j hj]; exact Nat.le_refl _)) (WG_mono (fun j hj => by rw [h j hj]; exact Nat.le_refl _))
abbrev BS : Type := Option (Nat × RW)
def lfB (W : RW → Nat) (row : RW) (b : BS) : BS := match b with
  | none => some (W row, row)
  | some (v, q) => if W row < v then some (W row, row) else some (v, q)
/-- what is as warm already gives nothing better -/
theorem TC_cut {nr nm av fv : Nat} {ok : Nat → RW → Bool} {g0 ml : Nat → Nat} {sh : Nat → Nat → Nat} : ∀ t m row b q, m + t = nm → b ≤ WG av fv nr (gvn g0 ml sh row m) → TC nr ok (lfB (fun row => WG av fv nr (gvn g0 ml sh row nm))) t m row (some (b, q)) = some (b, q)
  | 0, m, row, b, q, h, hb => by
    have : m = nm := by omega
    subst this
    show (if WG av fv nr (gvn g0 ml sh row m) < b then _ else some (b, q)) = _
    rw [if_neg (by omega)]
  | t + 1, m, row, b, q, h, hb => by
    refine fd_id nr (fun r hr => ?_)
    cases ok m (st row m r)
    · rfl
    · rw [if_pos rfl]
      refine TC_cut t (m + 1) (st row m r) b q (by omega) (Nat.le_trans hb (WG_mono (fun j hj => ?_)))
      have e : gvn g0 ml sh row m j = gvn g0 ml sh (st row m r) m j := gvn_cong (fun i hi => (st_ne (by omega)).symm)
      rw [e]
      unfold gvn
      rw [fb_sm_succ]
      omega
/-- the same sum, by racks and by machines -/
def add' (ml : Nat → Nat) (row : RW) (m i : Nat) : Nat := fb_sm (fun k => if row k = i then ml k else 0) m
theorem fb_pick (c : Nat → Nat) (a i : Nat) : ∀ n, fb_sm (fun k => (if i = k then a else 0) * c k) n = if i < n then a * c i else 0
  | 0 => rfl
  | n + 1 => by
    rw [fb_sm_succ, fb_pick c a i n]
    by_cases q : i = n
    · subst q; rw [if_neg (by omega), if_pos rfl, if_pos (by omega), Nat.zero_add]
    · rw [if_neg q, Nat.zero_mul, Nat.add_zero]
      by_cases q2 : i < n
      · rw [if_pos q2, if_pos (by omega)]
      · rw [if_neg q2, if_neg (by omega)]
theorem by_rack {ld s : Nat → Nat} {ml : Nat → Nat} {row : RW} {nr : Nat} : ∀ m, (∀ k, k < m → row k < nr) → fb_sm (fun i => (ld i + add' ml row m i) * s i) nr = fb_sm (fun i => ld i * s i) nr + fb_sm (fun k => ml k * s (row k)) m
  | 0, _ => by
    show fb_sm (fun i => (ld i + 0) * s i) nr = _ + 0
    rfl
  | m + 1, h => by
    have ih := by_rack (ld := ld) (s := s) (ml := ml) (row := row) (nr := nr) m (fun k hk => h k (by omega))
    have e : ∀ i, (ld i + add' ml row (m + 1) i) * s i = (ld i + add' ml row m i) * s i + (if row m = i then ml m else 0) * s i := by
      intro i
      rw [← Nat.add_mul, Nat.add_assoc]
      rfl
    rw [fb_sm_cong (fun i _ => e i), fb_sm_add, ih, fb_pick, if_pos (h m (by omega)), fb_sm_succ, Nat.add_assoc]
