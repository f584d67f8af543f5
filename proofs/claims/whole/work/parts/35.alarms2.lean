/-! alarms -/
theorem m1bit (i : Nat) (hi : i < 32) : ((-1 : Int32).toBitVec).getLsbD i = true := by
  rw [show ((-1 : Int32).toBitVec) = BitVec.allOnes 32 by decide, BitVec.getLsbD_allOnes]
  simp [hi]
theorem bw1 (v o m : Int32) : v &&& ((o ||| m) ^^^ (-1)) = (v &&& (o ^^^ (-1))) &&& (m ^^^ (-1)) := by
  apply Int32.toBitVec_inj.mp
  simp only [Int32.toBitVec_and, Int32.toBitVec_or, Int32.toBitVec_xor]
  apply BitVec.eq_of_getLsbD_eq
  intro i hi
  simp only [BitVec.getLsbD_and, BitVec.getLsbD_or, BitVec.getLsbD_xor, m1bit i hi]
  cases v.toBitVec.getLsbD i <;> cases o.toBitVec.getLsbD i <;> cases m.toBitVec.getLsbD i <;> rfl
theorem bw2 {m o : Int32} (h : o ||| m = o) : m &&& (o ^^^ (-1)) = 0 := by
  rw [← h]
  apply Int32.toBitVec_inj.mp
  simp only [Int32.toBitVec_and, Int32.toBitVec_or, Int32.toBitVec_xor]
  apply BitVec.eq_of_getLsbD_eq
  intro i hi
  simp only [BitVec.getLsbD_and, BitVec.getLsbD_or, BitVec.getLsbD_xor, m1bit i hi]
  rw [show ((0 : Int32).toBitVec) = 0#32 by decide, BitVec.getLsbD_zero]
  cases o.toBitVec.getLsbD i <;> cases m.toBitVec.getLsbD i <;> rfl
theorem bw0 (v : Int32) : v &&& ((0 : Int32) ^^^ (-1)) = v := by
  apply Int32.toBitVec_inj.mp
  simp only [Int32.toBitVec_and, Int32.toBitVec_xor]
  apply BitVec.eq_of_getLsbD_eq
  intro i hi
  simp only [BitVec.getLsbD_and, BitVec.getLsbD_xor, m1bit i hi]
  rw [show ((0 : Int32).toBitVec) = 0#32 by decide, BitVec.getLsbD_zero]
  cases v.toBitVec.getLsbD i <;> rfl
theorem sub_bits {s L : Nat} (hs : s < 2 ^ 31) (hL : L < 2 ^ 31) : nI s &&& (nI L ^^^ (-1)) = 0 ↔ ∀ i, s.testBit i = true → L.testBit i = true := by
  have hb : ∀ x : Nat, (nI x).toBitVec = BitVec.ofNat 32 x := fun x => rfl
  constructor
  · intro h i hi
    by_cases h32 : i < 32
    · have h2 := congrArg (fun z : Int32 => z.toBitVec.getLsbD i) h
      simp only [Int32.toBitVec_and, Int32.toBitVec_xor, BitVec.getLsbD_and, BitVec.getLsbD_xor, m1bit i h32, hb, BitVec.getLsbD_ofNat, hi, h32, decide_true, Bool.true_and] at h2
      rw [show ((0 : Int32).toBitVec) = 0#32 by decide, BitVec.getLsbD_zero] at h2
      revert h2
      cases L.testBit i <;> simp
    · rw [Nat.testBit_lt_two_pow (Nat.lt_of_lt_of_le hs (Nat.pow_le_pow_right (by omega) (by omega)))] at hi
      cases hi
  · intro h
    apply Int32.toBitVec_inj.mp
    simp only [Int32.toBitVec_and, Int32.toBitVec_xor]
    apply BitVec.eq_of_getLsbD_eq
    intro i hi
    simp only [BitVec.getLsbD_and, BitVec.getLsbD_xor, m1bit i hi, hb, BitVec.getLsbD_ofNat]
    rw [show ((0 : Int32).toBitVec) = 0#32 by decide, BitVec.getLsbD_zero]
    have := h i
    revert this
    cases s.testBit i <;> cases L.testBit i <;> simp
/-- a set of numbers as bits -/
def bset (p : Nat → Bool) : Nat → Nat
  | 0 => 0
  | n + 1 => if p n then bset p n ||| 2 ^ n else bset p n
theorem bset_bit (p : Nat → Bool) : ∀ n i, (bset p n).testBit i = (decide (i < n) && p i)
  | 0, i => by simp [bset]
  | n + 1, i => by
    unfold bset
    have ih := bset_bit p n i
    by_cases q : p n = true
    · rw [if_pos q, Nat.testBit_or, ih, Nat.testBit_two_pow]
      by_cases e : n = i
      · subst e; simp [q]
      · have : (i < n + 1) = (i < n) := by apply propext; omega
        simp [e, this]
    · rw [if_neg q, ih]
      by_cases e : n = i
      · subst e; simp at q; simp [q]
      · have : (i < n + 1) = (i < n) := by apply propext; omega
        simp [this]
theorem bset_lt (p : Nat → Bool) : ∀ n, bset p n < 2 ^ n
  | 0 => by simp [bset]
  | n + 1 => by
    unfold bset
    have ih := bset_lt p n
    have h2 : 2 ^ n < 2 ^ (n + 1) := Nat.pow_lt_pow_right (by omega) (by omega)
    by_cases q : p n = true
    · rw [if_pos q]; exact Nat.or_lt_two_pow (by omega) h2
    · rw [if_neg q]; omega
/-- the union of those that q names -/
def orf (q : Nat → Bool) (mk : Nat → Int32) : Nat → Int32
  | 0 => 0
  | n + 1 => if q n then orf q mk n ||| mk n else orf q mk n
theorem orf_cong {q q' : Nat → Bool} {mk mk' : Nat → Int32} : ∀ n, (∀ i, i < n → q i = q' i ∧ mk i = mk' i) → orf q mk n = orf q' mk' n
  | 0, _ => rfl
  | n + 1, h => by
    unfold orf
    rw [orf_cong n (fun i hi => h i (by omega)), (h n (by omega)).1, (h n (by omega)).2]
theorem or_self3 (a b : Int32) : a ||| b ||| b = a ||| b := by rw [Int32.or_assoc, Int32.or_self]
theorem orf_abs {q : Nat → Bool} {mk : Nat → Int32} : ∀ n c, c < n → q c = true → orf q mk n ||| mk c = orf q mk n
  | 0, c, h, _ => by omega
  | n + 1, c, h, hq => by
    unfold orf
    by_cases e : c = n
    · subst e
      rw [if_pos hq, or_self3]
    · have ih := orf_abs (q := q) (mk := mk) n c (by omega) hq
      by_cases q2 : q n = true
      · rw [if_pos q2, Int32.or_assoc, Int32.or_comm (mk n), ← Int32.or_assoc, ih]
      · rw [if_neg q2, ih]
def subI (S : ux_S) (c : Nat) : Bool := decide (S.1 48 c &&& (S.1 6 2 ^^^ (-1)) = 0)
theorem t_likely {n : Nat} (hn : 20 ≤ n) {S : ux_S} {nc : Nat} (h : RAlarm S nc) : f_X0_likely n S = some (nI (bset (subI S) nc), S) := by
  obtain ⟨g0, g1, g2, g3, g4⟩ := h
  unfold f_X0_likely
  refine ux_lpi2 (b := b_X0_likely_4 n) nc (fun m x T => x = nI (bset (subI S) m) ∧ T = S) (fun o => o = some (nI (bset (subI S) nc), S)) ?_ ?_ n 0 0 S (by omega) (by omega) ⟨rfl, rfl⟩
  · intro m x T hm hI k hk
    obtain ⟨rfl, rfl⟩ := hI
    unfold b_X0_likely_4
    rw [g1, if_neg (nI_ge hm (by omega)), ux_ibn (by omega : m < 10) (by omega), gdt, nI_clamp (by omega), nI_1]
    by_cases q : T.1 48 m &&& (T.1 6 2 ^^^ (-1)) = 0
    · rw [if_pos q, bit_set (by omega)]
      refine hk _ _ ⟨?_, rfl⟩
      have : subI T m = true := decide_eq_true q
      conv => rhs; unfold bset
      rw [if_pos this]
    · rw [if_neg q]
      refine hk _ _ ⟨?_, rfl⟩
      have : ¬ subI T m = true := fun h9 => q (of_decide_eq_true h9)
      conv => rhs; unfold bset
      rw [if_neg this]
  · intro x T hI k
    obtain ⟨rfl, rfl⟩ := hI
    unfold b_X0_likely_4
    rw [g1, if_pos (nI_le (Nat.le_refl _) (by omega))]
theorem bit_is {F f : Nat} (h : f < 32) (hF : F < 2 ^ 31) : ((nI F >>> (nI f &&& 31)) &&& 1 = 1) ↔ F.testBit f = true := by
  rw [bit_at h hF]
  by_cases q : F.testBit f = true
  · rw [if_pos q]; simp [q]
  · rw [if_neg q]; simp [q]
theorem t_madeBy {n : Nat} (hn : 20 ≤ n) {S : ux_S} {nc s : Nat} (h : RAlarm S nc) (hs : s < 2 ^ 31) : f_X0_madeBy n S (nI s) = some (orf s.testBit (S.1 48) nc, S) := by
  obtain ⟨g0, g1, g2, g3, g4⟩ := h
  unfold f_X0_madeBy
  refine ux_lpi2 (b := b_X0_madeBy_4 n (nI s)) nc (fun m x T => x = orf s.testBit (S.1 48) m ∧ T = S) (fun o => o = some (orf s.testBit (S.1 48) nc, S)) ?_ ?_ n 0 0 S (by omega) (by omega) ⟨rfl, rfl⟩
  · intro m x T hm hI k hk
    obtain ⟨rfl, rfl⟩ := hI
    unfold b_X0_madeBy_4
    rw [g1, if_neg (nI_ge hm (by omega))]
    by_cases q : s.testBit m = true
    · rw [if_pos ((bit_is (by omega) hs).mpr q), ux_ibn (by omega : m < 10) (by omega), gdt, nI_clamp (by omega), nI_1]
      refine hk _ _ ⟨?_, rfl⟩
      conv => rhs; unfold orf
      rw [if_pos q]
    · rw [if_neg (fun q2 => q ((bit_is (by omega) hs).mp q2)), nI_1]
      refine hk _ _ ⟨?_, rfl⟩
      conv => rhs; unfold orf
      rw [if_neg q]
  · intro x T hI k
    obtain ⟨rfl, rfl⟩ := hI
    unfold b_X0_madeBy_4
    rw [g1, if_pos (nI_le (Nat.le_refl _) (by omega))]
theorem pr_strange (n : Nat) (hn : 20 ≤ n) : alike (fun S => f_X7_strange n S) (fun S => f_X8_strange n S) := by
  intro S hR
  obtain ⟨nr, nm, nf, nc, nt, h1, h2, h3, h4, h5, h6, h7⟩ := id hR
  obtain ⟨g0, g1, g2, g3, g4⟩ := id h6
  have hlt : bset (subI S) nc < 2 ^ 31 := Nat.lt_of_lt_of_le (bset_lt _ _) (Nat.pow_le_pow_right (by omega) (by omega))
  have e1 : orf (bset (subI S) nc).testBit (S.1 48) nc = orf (subI S) (S.1 48) nc := orf_cong nc (fun i hi => ⟨by rw [bset_bit]; simp [hi], rfl⟩)
  refine ⟨S.1 6 2 &&& (orf (subI S) (S.1 48) nc ^^^ (-1)), S, S, ?_, ?_, hR⟩
  · simp only [f_X7_strange, t_likely hn h6, ux_bi_s, t_madeBy hn h6 hlt, e1]
  · show f_X8_strange n S = _
    unfold f_X8_strange
    refine ux_lpi2 (b := b_X8_strange_7 n) nc (fun m x T => x = S.1 6 2 &&& (orf (subI S) (S.1 48) m ^^^ (-1)) ∧ T = S) (fun o => o = some (S.1 6 2 &&& (orf (subI S) (S.1 48) nc ^^^ (-1)), S)) ?_ ?_ n 0 _ S (by omega) (by omega) ⟨by rw [g4.1]; exact (bw0 _).symm, rfl⟩
    · intro m x T hm hI k hk
      obtain ⟨rfl, rfl⟩ := hI
      unfold b_X8_strange_7
      rw [g2, if_neg (nI_ge hm (by omega)), ux_ibn (by omega : m < 10) (by omega), gdt, gdt, nI_clamp (by omega), nI_1, (g3 m hm).1, g4.1]
      by_cases q : T.1 48 m &&& (T.1 6 2 ^^^ (-1)) = 0
      · rw [if_pos q]
        refine hk _ _ ⟨?_, rfl⟩
        have : subI T m = true := decide_eq_true q
        conv => rhs; unfold orf
        rw [if_pos this, bw1]
      · rw [if_neg q]
        refine hk _ _ ⟨?_, rfl⟩
        have : ¬ subI T m = true := fun h9 => q (of_decide_eq_true h9)
        conv => rhs; unfold orf
        rw [if_neg this]
    · intro x T hI k
      obtain ⟨rfl, rfl⟩ := hI
      unfold b_X8_strange_7
      rw [g2, if_pos (nI_le (Nat.le_refl _) (by omega))]
/-! roots -/
def popc (s : Nat) : Nat := fb_ct s.testBit 16
def rstep (S : ux_S) (nc : Nat) (an : Option Nat) (s : Nat) : Option Nat :=
  if orf s.testBit (S.1 48) nc = S.1 6 2 then (match an with
    | none => some s
    | some b => if popc b ≤ popc s then some b else some s) else an
def rall (S : ux_S) (nc : Nat) : Nat → Option Nat
  | 0 => none
  | k + 1 => rstep S nc (rall S nc k) k
def renc (an : Option Nat) : Int32 := match an with
  | none => -4
  | some s => nI s
def rcnt (d : Nat) (an : Option Nat) : Int32 := match an with
  | none => nI d
  | some s => nI (popc s)
theorem popc_le (s : Nat) : popc s ≤ 16 := fb_ct_le _ _
