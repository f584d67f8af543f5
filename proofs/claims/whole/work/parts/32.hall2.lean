/-! what comes into a rack -/
def tn (x : Int32) : Nat := x.toNatClampNeg
theorem tn_rg {a b : Int} {x : Int32} (h : rg a b x) (ha : 0 ≤ a) : x = nI (tn x) ∧ a ≤ (tn x : Int) ∧ (tn x : Int) ≤ b := by
  obtain ⟨k, h1, h2, rfl⟩ := rg_nI h ha
  have hb := h.2
  have hk : k < 2 ^ 31 := by
    by_cases q : k < 2 ^ 31
    · exact q
    · have := fb_rng (nI k)
      have h3 := h.1
      have h4 : ¬ nI k < 0 := by rw [fa_lt, show (0 : Int32).toInt = 0 by decide]; omega
      obtain ⟨j, hj, e⟩ := nI_of h4
      have h5 : (nI k).toInt = j := by rw [e, nI_toInt hj]
      obtain ⟨k2, _, _, e2⟩ := rg_nI h ha
      exact absurd q (by
        intro q
        sorry)
  unfold tn
  rw [nI_clamp hk]
  exact ⟨rfl, h1, h2⟩
