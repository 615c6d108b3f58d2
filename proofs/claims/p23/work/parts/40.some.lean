/-! the law's own small methods -/
theorem l_some (σ : Sg) (v : Int32) {n : Nat} (hn : 0 < n) (hn2 : n < 100000) : ∃ k, k < n ∧ f_L_some σ v (nI n) = some (σ, nI k) := by
  unfold f_L_some
  rw [if_neg (nI_ne0 hn (by omega))]
  have hx : 0 ≤ (v &&& (2147483647 : Int32)).toInt := by
    have e : (v &&& (2147483647 : Int32)).toInt = (v.toBitVec &&& (2147483647 : Int32).toBitVec).toInt := rfl
    have n1 : (v.toBitVec &&& (2147483647 : Int32).toBitVec).toNat ≤ (2147483647 : Int32).toBitVec.toNat := by
      rw [BitVec.toNat_and]
      exact Nat.and_le_right
    have n2 : (2147483647 : Int32).toBitVec.toNat = 2147483647 := by decide
    rw [e, BitVec.toInt_eq_toNat_cond, if_pos (by omega)]
    omega
  generalize (v &&& (2147483647 : Int32)) = x at hx
  have hr := z_rng x
  have en : (nI n).toInt = (n : Int) := z_nI (by omega)
  have q0 : 0 ≤ x.toInt / (n : Int) := Int.ediv_nonneg hx (by omega)
  have q1 : x.toInt / (n : Int) ≤ x.toInt := Int.ediv_le_self _ hx
  have q2 : x.toInt % (n : Int) + x.toInt / (n : Int) * (n : Int) = x.toInt := Int.emod_add_ediv_mul _ _
  have q3 : 0 ≤ x.toInt % (n : Int) := Int.emod_nonneg _ (by omega)
  have q4 : x.toInt % (n : Int) < (n : Int) := Int.emod_lt_of_pos _ (by omega)
  have e1 : (x / nI n).toInt = x.toInt / (n : Int) := by
    rw [z_div (by rw [en, Int.tdiv_eq_ediv_of_nonneg hx]; omega), en, Int.tdiv_eq_ediv_of_nonneg hx]
  generalize x.toInt / (n : Int) * (n : Int) = y at q2
  generalize hd : x.toInt / (n : Int) = d at *
  have e2 : (x / nI n * nI n).toInt = d * (n : Int) := by
    rw [z_mul (by rw [e1, en]; have : d * (n : Int) = x.toInt - x.toInt % (n : Int) := by rw [← hd]; have := Int.emod_add_ediv_mul x.toInt (n : Int); omega
                  omega), e1, en]
  have e3 : (x - x / nI n * nI n).toInt = x.toInt % (n : Int) := by
    have : d * (n : Int) = x.toInt - x.toInt % (n : Int) := by rw [← hd]; have := Int.emod_add_ediv_mul x.toInt (n : Int); omega
    rw [z_sub (by rw [e2]; omega), e2]
    omega
  refine ⟨(x.toInt % (n : Int)).toNat, by omega, ?_⟩
  have e4 : x - x / nI n * nI n = nI (x.toInt % (n : Int)).toNat := by
    rw [z_eq, e3, z_nI (by omega)]
    omega
  rw [e4]
theorem l_cell {N : Nat} (hN : N ≤ 260) (σ : Sg) {i : Nat} (hi : i < 1000) : ∃ v, f_L_cell 105 N σ (nI i) = some (σ, v) := by
  unfold f_L_cell
  by_cases h : Int32.ofNat N ≤ nI i
  · rw [if_pos h]
    exact ⟨_, rfl⟩
  · rw [if_neg h]
    have h2 : i < N := by
      have h3 : ¬ nI N ≤ nI i := h
      rw [nI_leI (by omega) (by omega)] at h3
      omega
    rw [if_neg (o_in h2 (by omega))]
    exact ⟨_, rfl⟩
