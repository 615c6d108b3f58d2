/-! an index is set, a game begins -/
theorem l_index (σ : Sg) {k : Nat} (hk : k < 2001) : f_X5_index σ 3 (nI k) = some (q_wr σ 22 3 (nI k), σ 22 3) := by
  have n10 : ¬ (1 : Int32) = 0 := by decide
  have hv : (0 : Int32) ≤ nI k ∧ nI k ≤ 2000 := ⟨nI_pos' (by omega), nI_le (b := 2000) (by omega) (by omega)⟩
  unfold f_X5_index f_X4_put
  rw [r_isPlayer, b_some, if_pos (show (0 : Int32) ≤ 3 ∧ (3 : Int32) ≤ 7 by decide), if_neg n10, r_within, b_some, if_pos hv, if_neg n10, show f_X5_at 22 8 σ 3 = some (σ, σ 22 3) from r_at (a := 22) (n := 8) (k := 3) σ (by decide) (by decide), b_some, show f_X5_set 22 8 σ 3 (nI k) = some (q_wr σ 22 3 (nI k), 0) from r_set (a := 22) (n := 8) (k := 3) σ (nI k) (by decide) (by decide), b_some, b_some]
theorem m_rb : ∀ i : Nat, i < 21 → ∀ j : Nat, j < 21 → (-20 : Int32) ≤ m_r (nI i - nI j) ∧ (0 ≤ (m_f0 (nI i - nI j)).toInt ∧ (m_f0 (nI i - nI j)).toInt ≤ 20) ∧ 0 ≤ (m_f1 (nI i - nI j)).toInt ∧ (m_f1 (nI i - nI j)).toInt ≤ 20 := by decide +kernel
theorem l_game {σ : Sg} (h3 : 0 ≤ (σ 22 3).toInt ∧ (σ 22 3).toInt ≤ 2000) (h6 : 0 ≤ (σ 22 6).toInt ∧ (σ 22 6).toInt ≤ 2000) : ∃ σ1 r, f_X5_game σ 3 6 = some (σ1, r) ∧ (-20 : Int32) ≤ r ∧ Fc σ σ1 ∧ GO σ1 0 := by
  have n10 : ¬ (1 : Int32) = 0 := by decide
  obtain ⟨i, hi, ei⟩ := m_hcn h6
  obtain ⟨j, hj, ej⟩ := m_hcn h3
  obtain ⟨w1, w2, w3⟩ := m_rf i hi j hj
  obtain ⟨u1, u2, u3⟩ := m_rb i hi j hj
  have cF := c_turns (σ := σ) (a := 3) (b := 6) (by decide) (by decide) ei ej
  generalize hd : nI i - nI j = d at w1 w2 w3 u1 u2 u3 cF
  unfold f_X5_game
  rw [r_isPlayer, b_some, if_pos (show (0 : Int32) ≤ 3 ∧ (3 : Int32) ≤ 7 by decide), if_neg n10, r_isPlayer, b_some, if_pos (show (0 : Int32) ≤ 6 ∧ (6 : Int32) ≤ 7 by decide), if_neg n10, if_neg (show ¬ (3 : Int32) = 6 by decide), show f_X4_freeTurnsOfOther σ 3 6 = some (σ, m_r d) from cF, b_some, l_eq, l_eq, w1, w2]
  unfold f_X2_begin
  have s80 : f_X5_set 8 2 σ 0 3 = some (q_wr σ 8 0 3, 0) := r_set (a := 8) (n := 2) (k := 0) σ _ (by decide) (by decide)
  have s81 : f_X5_set 8 2 (q_wr σ 8 0 3) 1 6 = some (q_wr (q_wr σ 8 0 3) 8 1 6, 0) := r_set (a := 8) (n := 2) (k := 1) _ _ (by decide) (by decide)
  rw [s80, b_some, s81, b_some, ls_eq, ls_eq, ls_eq, ls_eq]
  have s70 : ∀ τ : Sg, f_X5_set 7 151 τ 0 0 = some (q_wr τ 7 0 0, 0) := fun τ => r_set (a := 7) (n := 151) (k := 0) τ _ (by decide) (by decide)
  rw [s70, b_some]
  have e11 : q_wr (q_wr (q_wr (q_wr (q_wr (q_wr (q_wr σ 8 0 3) 8 1 6) 1 11 (m_f0 d)) 1 12 (m_f1 d)) 1 9 1) 1 10 0) 7 0 0 1 11 = m_f0 d := by simp [w_at]
  have e12 : q_wr (q_wr (q_wr (q_wr (q_wr (q_wr (q_wr σ 8 0 3) 8 1 6) 1 11 (m_f0 d)) 1 12 (m_f1 d)) 1 9 1) 1 10 0) 7 0 0 1 12 = m_f1 d := by simp [w_at]
  have e9 : q_wr (q_wr (q_wr (q_wr (q_wr (q_wr (q_wr σ 8 0 3) 8 1 6) 1 11 (m_f0 d)) 1 12 (m_f1 d)) 1 9 1) 1 10 0) 7 0 0 1 9 = 1 := by simp [w_at]
  have e10 : q_wr (q_wr (q_wr (q_wr (q_wr (q_wr (q_wr σ 8 0 3) 8 1 6) 1 11 (m_f0 d)) 1 12 (m_f1 d)) 1 9 1) 1 10 0) 7 0 0 1 10 = 0 := by simp [w_at]
  have e7 : q_wr (q_wr (q_wr (q_wr (q_wr (q_wr (q_wr σ 8 0 3) 8 1 6) 1 11 (m_f0 d)) 1 12 (m_f1 d)) 1 9 1) 1 10 0) 7 0 0 7 0 = 0 := by simp [w_at]
  have eo : ∀ o, ¬ (1 ≤ o ∧ o ≤ 14) → q_wr (q_wr (q_wr (q_wr (q_wr (q_wr (q_wr σ 8 0 3) 8 1 6) 1 11 (m_f0 d)) 1 12 (m_f1 d)) 1 9 1) 1 10 0) 7 0 0 o = σ o := by
    intro o ho
    rw [w_ne _ _ _ (by omega), w_ne _ _ _ (by omega), w_ne _ _ _ (by omega), w_ne _ _ _ (by omega), w_ne _ _ _ (by omega), w_ne _ _ _ (by omega), w_ne _ _ _ (by omega)]
  generalize q_wr (q_wr (q_wr (q_wr (q_wr (q_wr (q_wr σ 8 0 3) 8 1 6) 1 11 (m_f0 d)) 1 12 (m_f1 d)) 1 9 1) 1 10 0) 7 0 0 = ρ at *
  obtain ⟨σ1, c1, c2, c3⟩ := c_begin 9 ρ (ρ 1 11) (ρ 1 12)
  rw [c1, b_some, b_some]
  have f1 : σ1 1 = ρ 1 := c3 1 (by decide) (by decide) (by decide)
  have f7 : σ1 7 = ρ 7 := c3 7 (by decide) (by decide) (by decide)
  refine ⟨σ1, m_r d, rfl, u1, fun o ho => by rw [c3 o (by omega) (by omega) (by omega), eo o ho], ⟨by decide, ?_, ?_, fun k hk => absurd hk (by omega), fun k hk => ?_, ?_, ?_⟩⟩
  · rw [f1]; exact e9
  · rw [f1]; exact e10
  · have : k = 0 := by omega
    subst this
    exact ⟨0, by decide, by rw [f7]; exact e7⟩
  · rw [c2]
    show _ = pObey (pB (σ1 1 11) (σ1 1 12)) (σ1 7 0).toNatClampNeg
    rw [f1, f7, e7]
    rfl
  · unfold FB
    rw [f1, e11, e12]
    exact ⟨u2, u3⟩
