/-! counting bits -/
theorem and8 {h l m k : Nat} (hl : l < 256) (hk : k < 256) : (256 * h + l) &&& (256 * m + k) = 256 * (h &&& m) + (l &&& k) := by
  have h3 : l &&& k < 2 ^ 8 := Nat.lt_of_le_of_lt Nat.and_le_left hl
  apply Nat.eq_of_testBit_eq
  intro i
  rw [Nat.testBit_and, show (256 : Nat) = 2 ^ 8 from rfl, Nat.testBit_two_pow_mul_add h (by omega : l < 2 ^ 8), Nat.testBit_two_pow_mul_add m (by omega : k < 2 ^ 8), Nat.testBit_two_pow_mul_add (h &&& m) h3]
  by_cases q : i < 8
  · simp [q, Nat.testBit_and]
  · simp [q, Nat.testBit_and]
theorem andp {e x y k : Nat} (hy : y < 2 ^ e) (hk : k < 2 ^ e) : (2 ^ e * x + y) &&& k = y &&& k := by
  apply Nat.eq_of_testBit_eq
  intro i
  rw [Nat.testBit_and, Nat.testBit_and, Nat.testBit_two_pow_mul_add x hy]
  by_cases q : i < e
  · simp [q]
  · have : k.testBit i = false := Nat.testBit_lt_two_pow (Nat.lt_of_lt_of_le hk (Nat.pow_le_pow_right (by omega) (by omega)))
    simp [this]
def bA (x : Nat) : Nat := x - ((x / 2) &&& 85)
def bB (x : Nat) : Nat := (bA x &&& 51) + ((bA x / 4) &&& 51)
theorem bB_ok : ∀ x, x < 256 → bA x < 256 ∧ bB x % 16 ≤ 4 ∧ bB x / 16 ≤ 4 ∧ bB x % 16 + bB x / 16 = fb_ct x.testBit 8 := by decide +kernel
theorem and_s {h : Nat} (hh : h < 256) {M k : Nat} (hk : k < 256) : h &&& (256 * M + k) = h &&& k := by
  rw [Nat.and_comm, Nat.and_comm h k]
  have := andp (e := 8) (x := M) (y := k) (k := h) hk hh
  exact this
def bcA (s : Nat) : Nat := s - ((s / 2) &&& 1431655765)
def bcB (s : Nat) : Nat := (bcA s &&& 858993459) + ((bcA s / 4) &&& 858993459)
def bcC (s : Nat) : Nat := (bcB s + bcB s / 16) &&& 252645135
theorem bcA_eq {h l : Nat} (hh : h < 256) (hl : l < 256) : bcA (256 * h + l) = 256 * bA h + bA l := by
  have e1 : (256 * h + l) / 2 = 256 * (h / 2) + (2 ^ 7 * (h % 2) + l / 2) := by omega
  have e2 : (2 ^ 7 * (h % 2) + l / 2) &&& 85 = (l / 2) &&& 85 := andp (by omega) (by omega)
  have e3 : (h / 2) &&& 5592405 = (h / 2) &&& 85 := by
    rw [show 5592405 = 256 * 21845 + 85 from rfl]; exact and_s (by omega) (by omega)
  have l1 : (h / 2) &&& 85 ≤ h / 2 := Nat.and_le_left
  have l2 : (l / 2) &&& 85 ≤ l / 2 := Nat.and_le_left
  unfold bcA bA
  rw [e1, show 1431655765 = 256 * 5592405 + 85 from rfl, and8 (by omega) (by omega), e2, e3]
  omega
theorem bcB_eq {h l : Nat} (hh : h < 256) (hl : l < 256) : bcB (256 * h + l) = 256 * bB h + bB l := by
  have a1 := (bB_ok h hh).1
  have a2 := (bB_ok l hl).1
  unfold bcB bB
  rw [bcA_eq hh hl]
  generalize bA h = u at a1 ⊢
  generalize bA l = v at a2 ⊢
  have e1 : (256 * u + v) / 4 = 256 * (u / 4) + (2 ^ 6 * (u % 4) + v / 4) := by omega
  have e2 : (2 ^ 6 * (u % 4) + v / 4) &&& 51 = (v / 4) &&& 51 := andp (by omega) (by omega)
  have e3 : (u / 4) &&& 3355443 = (u / 4) &&& 51 := by
    rw [show 3355443 = 256 * 13107 + 51 from rfl]; exact and_s (by omega) (by omega)
  have e4 : u &&& 3355443 = u &&& 51 := by
    rw [show 3355443 = 256 * 13107 + 51 from rfl]; exact and_s (by omega) (by omega)
  rw [e1, show 858993459 = 256 * 3355443 + 51 from rfl, and8 (by omega) (by omega), and8 (by omega) (by omega), e2, e3, e4]
  omega
theorem bcC_eq {h l : Nat} (hh : h < 256) (hl : l < 256) : bcC (256 * h + l) = 256 * fb_ct h.testBit 8 + fb_ct l.testBit 8 := by
  obtain ⟨-, a1, a2, a3⟩ := bB_ok h hh
  obtain ⟨-, b1, b2, b3⟩ := bB_ok l hl
  unfold bcC
  rw [bcB_eq hh hl, ← a3, ← b3]
  generalize bB h = u at a1 a2 ⊢
  generalize bB l = v at b1 b2 ⊢
  have e : 256 * u + v + (256 * u + v) / 16 = 256 * (u + u / 16) + (16 * (v / 16 + u % 16) + (v % 16 + v / 16)) := by omega
  have e2 : (u + u / 16) &&& 986895 = u % 16 + u / 16 := by
    rw [show 986895 = 256 * 3855 + 15 from rfl, and_s (by omega) (by omega), show 15 = 2 ^ 4 - 1 from rfl, Nat.and_two_pow_sub_one_eq_mod]
    omega
  have e3 : (16 * (v / 16 + u % 16) + (v % 16 + v / 16)) &&& 15 = v % 16 + v / 16 := by
    rw [show 15 = 2 ^ 4 - 1 from rfl, Nat.and_two_pow_sub_one_eq_mod]
    omega
  rw [e, show 252645135 = 256 * 986895 + 15 from rfl, and8 (by omega) (by omega), e2, e3]
theorem popc_split {h l : Nat} (hl : l < 256) : popc (256 * h + l) = fb_ct l.testBit 8 + fb_ct h.testBit 8 := by
  unfold popc
  have e := fb_ct_split (256 * h + l).testBit 8 8
  rw [show (16 : Nat) = 8 + 8 from rfl, e]
  have e1 : fb_ct (256 * h + l).testBit 8 = fb_ct l.testBit 8 := fb_ct_cong (fun k hk => by
    rw [show (256 : Nat) = 2 ^ 8 from rfl, Nat.testBit_two_pow_mul_add h (by omega : l < 2 ^ 8), if_pos hk])
  have e2 : fb_ct (fun k => (256 * h + l).testBit (8 + k)) 8 = fb_ct h.testBit 8 := fb_ct_cong (fun k hk => by
    rw [show (256 : Nat) = 2 ^ 8 from rfl, Nat.testBit_two_pow_mul_add h (by omega : l < 2 ^ 8), if_neg (by omega)]
    congr 1
    omega)
  rw [e1, e2]
theorem us {x k : Nat} (hx : x < 2 ^ 32) (s : Int32) (hs : ((s.toUInt32 &&& Int32.toUInt32 31).toBitVec % 32).toNat = k) : ((nI x).toUInt32 >>> (s.toUInt32 &&& Int32.toUInt32 31)).toInt32 = nI (x / 2 ^ k) := pk_ushrN hx s k hs
theorem t_bitCount (S : ux_S) {s : Nat} (hs : s < 65536) : f_J6_bitCount_0f7a4 S (nI s) = some (nI (popc s), S) := by
  obtain ⟨h, l, hh, hl, rfl⟩ : ∃ h l, h < 256 ∧ l < 256 ∧ s = 256 * h + l := ⟨s / 256, s % 256, by omega, by omega, by omega⟩
  generalize hse : 256 * h + l = s at hs
  have c1 : (1431655765 : Int32) = nI 1431655765 := rfl
  have c2 : (858993459 : Int32) = nI 858993459 := rfl
  have c3 : (252645135 : Int32) = nI 252645135 := rfl
  have c4 : (63 : Int32) = nI 63 := rfl
  have k1 : ((nI s).toUInt32 >>> ((1 : Int32).toUInt32 &&& Int32.toUInt32 31)).toInt32 = nI (s / 2) := us (by omega) 1 (k := 1) (by decide)
  have l1 : (s / 2) &&& 1431655765 ≤ s / 2 := Nat.and_le_left
  have e1 : nI s - (nI (s / 2) &&& nI 1431655765) = nI (bcA s) := by
    rw [fa_and, pk_sub (by omega)]; rfl
  have b1 : bcA s ≤ s := Nat.sub_le _ _
  have k2 : ((nI (bcA s)).toUInt32 >>> ((2 : Int32).toUInt32 &&& Int32.toUInt32 31)).toInt32 = nI (bcA s / 4) := us (by omega) 2 (k := 2) (by decide)
  have e2 : (nI (bcA s) &&& nI 858993459) + (nI (bcA s / 4) &&& nI 858993459) = nI (bcB s) := by
    rw [fa_and, fa_and, nI_add]; rfl
  have b2 : bcB s ≤ 2 * s := by
    have q1 : bcA s &&& 858993459 ≤ bcA s := Nat.and_le_left
    have q2 : (bcA s / 4) &&& 858993459 ≤ bcA s / 4 := Nat.and_le_left
    unfold bcB
    omega
  have k3 : ((nI (bcB s)).toUInt32 >>> ((4 : Int32).toUInt32 &&& Int32.toUInt32 31)).toInt32 = nI (bcB s / 16) := us (by omega) 4 (k := 4) (by decide)
  have e3 : (nI (bcB s) + nI (bcB s / 16)) &&& nI 252645135 = nI (bcC s) := by
    rw [nI_add, fa_and]; rfl
  have hC : bcC s = 256 * fb_ct h.testBit 8 + fb_ct l.testBit 8 := by rw [← hse]; exact bcC_eq hh hl
  have p1 := fb_ct_le h.testBit 8
  have p2 := fb_ct_le l.testBit 8
  have k4 : ((nI (bcC s)).toUInt32 >>> ((8 : Int32).toUInt32 &&& Int32.toUInt32 31)).toInt32 = nI (bcC s / 256) := us (by omega) 8 (k := 8) (by decide)
  have k5 : ((nI (bcC s + bcC s / 256)).toUInt32 >>> ((16 : Int32).toUInt32 &&& Int32.toUInt32 31)).toInt32 = nI ((bcC s + bcC s / 256) / 65536) := us (by omega) 16 (k := 16) (by decide)
  unfold f_J6_bitCount_0f7a4
  rw [c1, c2, c3, c4, k1, e1, k2, e2, k3, e3, k4, nI_add, k5, nI_add, pk_andN (by omega) 6 (by decide)]
  congr 3
  rw [← hse, popc_split hl]
  rw [← hse] at hC
  rw [hC]
  generalize fb_ct h.testBit 8 = g at p1 ⊢
  generalize fb_ct l.testBit 8 = i at p2 ⊢
  have q1 : (256 * g + i) / 256 = g := by omega
  rw [q1]
  have q2 : (256 * g + i + g) / 65536 = 0 := by omega
  rw [q2]
  omega
/-! the first bit -/
theorem low_ex : ∀ F : Nat, F ≠ 0 → ∃ k m, F = 2 ^ (k + 1) * m + 2 ^ k := by
  intro F
  induction F using Nat.strongRecOn with
  | _ F ih =>
    intro h
    by_cases q : F % 2 = 1
    · exact ⟨0, F / 2, by omega⟩
    · obtain ⟨k, m, e⟩ := ih (F / 2) (by omega) (by omega)
      refine ⟨k + 1, m, ?_⟩
      have : F = 2 * (F / 2) := by omega
      rw [this, e, Nat.pow_succ 2 (k + 1), Nat.pow_succ 2 k]
      rw [Nat.mul_add]
      congr 1
      · rw [← Nat.mul_assoc, Nat.mul_comm 2]
      · rw [Nat.mul_comm]
theorem low_bit {k m i : Nat} : (2 ^ (k + 1) * m + 2 ^ k).testBit i = if i < k + 1 then decide (k = i) else m.testBit (i - (k + 1)) := by
  rw [Nat.testBit_two_pow_mul_add m (Nat.pow_lt_pow_right (by omega) (by omega)), Nat.testBit_two_pow]
theorem low_bit1 {k m i : Nat} : (2 ^ (k + 1) * m + 2 ^ k - 1).testBit i = if i < k + 1 then decide (i < k) else m.testBit (i - (k + 1)) := by
  have hp : 0 < 2 ^ k := Nat.pow_pos (by omega)
  have h2 : 2 ^ k < 2 ^ (k + 1) := Nat.pow_lt_pow_right (by omega) (by omega)
  rw [show 2 ^ (k + 1) * m + 2 ^ k - 1 = 2 ^ (k + 1) * m + (2 ^ k - 1) by omega, Nat.testBit_two_pow_mul_add m (by omega), Nat.testBit_two_pow_sub_one]
theorem low_y {k m : Nat} (hF : 2 ^ (k + 1) * m + 2 ^ k < 65536) : (nI (2 ^ (k + 1) * m + 2 ^ k) ^^^ (-1)) &&& (nI (2 ^ (k + 1) * m + 2 ^ k) - 1) = nI (2 ^ k - 1) := by
  have hp : 0 < 2 ^ k := Nat.pow_pos (by omega)
  rw [nIp (by omega)]
  apply Int32.toBitVec_inj.mp
  simp only [Int32.toBitVec_and, Int32.toBitVec_xor]
  apply BitVec.eq_of_getLsbD_eq
  intro i hi
  have hb : ∀ x : Nat, (nI x).toBitVec = BitVec.ofNat 32 x := fun x => rfl
  simp only [BitVec.getLsbD_and, BitVec.getLsbD_xor, m1bit i hi, hb, BitVec.getLsbD_ofNat, low_bit, low_bit1, Nat.testBit_two_pow_sub_one]
  by_cases q : i < k + 1
  · by_cases q2 : k = i
    · subst q2; simp [hi]
    · have : i < k := by omega
      simp [hi, q, q2, this]
  · have : ¬ i < k := by omega
    simp only [q, this, if_false, decide_false, Bool.and_false]
    cases m.testBit (i - (k + 1)) <;> simp [hi]
def ntzI (y : Int32) : Int32 :=
  let r74 := fun (x0 x1 : Int32) => x1 + ((x0.toUInt32 >>> ((1 : Int32).toUInt32 &&& Int32.toUInt32 31)).toInt32)
  let r62 := fun (x0 x1 : Int32) => if x0 ≤ 4 then r74 x0 x1 else r74 ((x0.toUInt32 >>> ((2 : Int32).toUInt32 &&& Int32.toUInt32 31)).toInt32) (x1 + 2)
  let r49 := fun (x0 x1 : Int32) => if x0 ≤ 16 then r62 x0 x1 else r62 ((x0.toUInt32 >>> ((4 : Int32).toUInt32 &&& Int32.toUInt32 31)).toInt32) (x1 + 4)
  let r34 := fun (x0 x1 : Int32) => if x0 ≤ 256 then r49 x0 x1 else r49 ((x0.toUInt32 >>> ((8 : Int32).toUInt32 &&& Int32.toUInt32 31)).toInt32) (x1 + 8)
  if 0 < y then (if y ≤ 65536 then r34 y 1 else r34 ((y.toUInt32 >>> ((16 : Int32).toUInt32 &&& Int32.toUInt32 31)).toInt32) (1 + 16)) else (y &&& 32)
theorem ntz_val : ∀ k, k < 16 → ntzI (nI (2 ^ k - 1)) = nI k := by decide +kernel
theorem some_if {α β : Type} {c : Prop} [Decidable c] (a b : α) (S : β) : (if c then some (a, S) else some (b, S)) = some (if c then a else b, S) := by
  by_cases h : c
  · rw [if_pos h, if_pos h]
  · rw [if_neg h, if_neg h]
theorem t_ntz (n : Nat) (S : ux_S) (x : Int32) : f_J6_numberOfTrailingZeros_0f7a4 n S x = some (ntzI ((x ^^^ (-1)) &&& (x - 1)), S) := by
  unfold f_J6_numberOfTrailingZeros_0f7a4 b_J6_numberOfTrailingZeros_0f7a4_34 b_J6_numberOfTrailingZeros_0f7a4_49 b_J6_numberOfTrailingZeros_0f7a4_62 b_J6_numberOfTrailingZeros_0f7a4_74 ntzI
  simp only [some_if]
theorem t_firstBit (n : Nat) (S : ux_S) {F : Nat} (hF : F < 65536) : f_X7_firstBit n S (nI F) = some (fst4 F.testBit 0 16, S) := by
  unfold f_X7_firstBit
  by_cases h0 : F = 0
  · subst h0
    rw [if_pos nI_0, (fst4_none 16 0 (by omega)).mpr (fun i _ _ => Nat.zero_testBit i)]
  · rw [if_neg (nI_ne0 (by omega) (by omega)), t_ntz, ux_bi_s]
    obtain ⟨k, m, rfl⟩ := low_ex F h0
    have hk : k < 16 := by
      by_cases q : k < 16
      · exact q
      · have : 2 ^ 16 ≤ 2 ^ k := Nat.pow_le_pow_right (by omega) (by omega)
        omega
    rw [low_y hF, ntz_val k hk]
    congr 2
    have key : ∀ t i, i + t = 16 → i ≤ k → fst4 (2 ^ (k + 1) * m + 2 ^ k).testBit i t = nI k := by
      intro t
      induction t with
      | zero => intro i h1 h2; omega
      | succ t ih =>
        intro i h1 h2
        unfold fst4
        by_cases q : i = k
        · subst q
          rw [if_pos (by rw [low_bit, if_pos (by omega)]; simp)]
        · rw [if_neg (by rw [low_bit, if_pos (by omega)]; simp; omega)]
          exact ih (i + 1) (by omega) (by omega)
    exact (key 16 0 (by omega) (by omega)).symm
