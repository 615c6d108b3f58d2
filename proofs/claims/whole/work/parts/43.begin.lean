theorem c_turns {σ : Sg} {a b i j : Nat} (ha : a < 8) (hb : b < 8) (ei : m_hc (σ 22 b) = nI i) (ej : m_hc (σ 22 a) = nI j) : f_X4_freeTurnsOfOther σ (nI a) (nI b) = some (σ, m_r (nI i - nI j)) := by
  unfold f_X4_freeTurnsOfOther f_X4_handicapOf
  rw [r_at (a := 22) (n := 8) σ hb (by decide), b_some, b_some, r_at (a := 22) (n := 8) σ ha (by decide), b_some, b_some, show (20 : Int32) - σ 22 b / 100 = nI i from ei, show (20 : Int32) - σ 22 a / 100 = nI j from ej, l_eq, l_eq, l_eq]
  unfold m_r
  by_cases h : 0 ≤ nI i - nI j
  · simp only [if_pos h]
  · simp only [if_neg h]
theorem p_game {σ : Sg} (H : RG σ) (hR : RR σ) (x y : Int32) : ∃ σ1 σ2 r, f_X5_game σ x y = some (σ1, r) ∧ Fc σ σ1 ∧ f_X6_game σ1 x y = some (σ2, r) ∧ Fr σ1 σ2 ∧ RG σ2 := by
  have n10 : ¬ (1 : Int32) = 0 := by decide
  unfold f_X5_game f_X6_game
  rw [r_isPlayer, b_some]
  have bad : ∀ σ' : Sg, σ' = σ → (Fc σ σ' ∧ Fr σ' σ' ∧ RG σ') := by
    intro σ' h
    subst h
    exact ⟨fun _ _ => rfl, ⟨fun _ _ _ => rfl, fun _ _ => rfl⟩, H⟩
  obtain ⟨B1, B2, B3⟩ := bad σ rfl
  by_cases hx : ¬ (0 ≤ x ∧ x ≤ 7)
  · refine ⟨σ, σ, -101, ?_, B1, ?_, B2, B3⟩
    · rw [if_neg hx, if_pos rfl]
    · rw [r_isPlayerM, b_some, if_neg hx, if_pos rfl]
  by_cases hy : ¬ (0 ≤ y ∧ y ≤ 7)
  · refine ⟨σ, σ, -101, ?_, B1, ?_, B2, B3⟩
    · rw [if_pos (Classical.not_not.1 hx), if_neg n10, r_isPlayer, b_some, if_neg hy, if_pos rfl]
    · rw [r_isPlayerM, b_some, if_pos (Classical.not_not.1 hx), if_neg n10, r_isPlayerM, b_some, if_neg hy, if_pos rfl]
  have hx := Classical.not_not.1 hx
  have hy := Classical.not_not.1 hy
  by_cases hxy : x = y
  · refine ⟨σ, σ, -101, ?_, B1, ?_, B2, B3⟩
    · rw [if_pos hx, if_neg n10, r_isPlayer, b_some, if_pos hy, if_neg n10, if_pos hxy]
    · rw [r_isPlayerM, b_some, if_pos hx, if_neg n10, r_isPlayerM, b_some, if_pos hy, if_neg n10, if_pos hxy]
  obtain ⟨a, a8, rfl⟩ := z_player hx
  obtain ⟨b, b8, rfl⟩ := z_player hy
  have ab : a ≠ b := fun e => hxy (by rw [e])
  obtain ⟨i, hi, ei⟩ := m_hcn (hR b b8).2
  obtain ⟨j, hj, ej⟩ := m_hcn (hR a a8).2
  obtain ⟨w1, w2, w3⟩ := m_rf i hi j hj
  generalize hd : nI i - nI j = d at w1 w2 w3
  have cF := c_turns (σ := σ) a8 b8 ei ej
  rw [hd] at cF
  rw [if_pos hx, if_neg n10, r_isPlayer, b_some, if_pos hy, if_neg n10, if_neg hxy, cF, b_some, l_eq, l_eq, w1, w2]
  unfold f_X2_begin
  have s80 : f_X5_set 8 2 σ 0 (nI a) = some (q_wr σ 8 0 (nI a), 0) := r_set (a := 8) (n := 2) (k := 0) σ _ (by decide) (by decide)
  have s81 : f_X5_set 8 2 (q_wr σ 8 0 (nI a)) 1 (nI b) = some (q_wr (q_wr σ 8 0 (nI a)) 8 1 (nI b), 0) := r_set (a := 8) (n := 2) (k := 1) _ _ (by decide) (by decide)
  rw [s80, b_some, s81, b_some, ls_eq, ls_eq, ls_eq, ls_eq]
  have s70 : ∀ τ : Sg, f_X5_set 7 151 τ 0 0 = some (q_wr τ 7 0 0, 0) := fun τ => r_set (a := 7) (n := 151) (k := 0) τ _ (by decide) (by decide)
  rw [s70, b_some]
  have e8 : ∀ k, q_wr (q_wr (q_wr (q_wr (q_wr (q_wr (q_wr σ 8 0 (nI a)) 8 1 (nI b)) 1 11 (m_f0 d)) 1 12 (m_f1 d)) 1 9 1) 1 10 0) 7 0 0 8 k = if k = 1 then nI b else if k = 0 then nI a else σ 8 k := by
    intro k
    simp [w_at]
  have e11 : q_wr (q_wr (q_wr (q_wr (q_wr (q_wr (q_wr σ 8 0 (nI a)) 8 1 (nI b)) 1 11 (m_f0 d)) 1 12 (m_f1 d)) 1 9 1) 1 10 0) 7 0 0 1 11 = m_f0 d := by simp [w_at]
  have e12 : q_wr (q_wr (q_wr (q_wr (q_wr (q_wr (q_wr σ 8 0 (nI a)) 8 1 (nI b)) 1 11 (m_f0 d)) 1 12 (m_f1 d)) 1 9 1) 1 10 0) 7 0 0 1 12 = m_f1 d := by simp [w_at]
  have e9 : q_wr (q_wr (q_wr (q_wr (q_wr (q_wr (q_wr σ 8 0 (nI a)) 8 1 (nI b)) 1 11 (m_f0 d)) 1 12 (m_f1 d)) 1 9 1) 1 10 0) 7 0 0 1 9 = 1 := by simp [w_at]
  have e10 : q_wr (q_wr (q_wr (q_wr (q_wr (q_wr (q_wr σ 8 0 (nI a)) 8 1 (nI b)) 1 11 (m_f0 d)) 1 12 (m_f1 d)) 1 9 1) 1 10 0) 7 0 0 1 10 = 0 := by simp [w_at]
  have e7 : q_wr (q_wr (q_wr (q_wr (q_wr (q_wr (q_wr σ 8 0 (nI a)) 8 1 (nI b)) 1 11 (m_f0 d)) 1 12 (m_f1 d)) 1 9 1) 1 10 0) 7 0 0 7 0 = 0 := by simp [w_at]
  have eo : ∀ o, ¬ (1 ≤ o ∧ o ≤ 14) → q_wr (q_wr (q_wr (q_wr (q_wr (q_wr (q_wr σ 8 0 (nI a)) 8 1 (nI b)) 1 11 (m_f0 d)) 1 12 (m_f1 d)) 1 9 1) 1 10 0) 7 0 0 o = σ o := by
    intro o ho
    rw [w_ne _ _ _ (by omega), w_ne _ _ _ (by omega), w_ne _ _ _ (by omega), w_ne _ _ _ (by omega), w_ne _ _ _ (by omega), w_ne _ _ _ (by omega), w_ne _ _ _ (by omega)]
  generalize q_wr (q_wr (q_wr (q_wr (q_wr (q_wr (q_wr σ 8 0 (nI a)) 8 1 (nI b)) 1 11 (m_f0 d)) 1 12 (m_f1 d)) 1 9 1) 1 10 0) 7 0 0 = ρ at *
  obtain ⟨σ1, c1, c2, c3⟩ := c_begin 9 ρ (ρ 1 11) (ρ 1 12)
  rw [c1, b_some, b_some]
  have F1 : Fc σ σ1 := fun o ho => by rw [c3 o (by omega) (by omega) (by omega), eo o ho]
  have f1 : σ1 1 = ρ 1 := c3 1 (by decide) (by decide) (by decide)
  have f7 : σ1 7 = ρ 7 := c3 7 (by decide) (by decide) (by decide)
  have f8 : σ1 8 = ρ 8 := c3 8 (by decide) (by decide) (by decide)
  have o20 : ¬ q_oob (0 : Int32) 2 := by decide
  have o21 : ¬ q_oob (1 : Int32) 2 := by decide
  have t0 : (0 : Int32).toNatClampNeg = 0 := rfl
  have t1 : (1 : Int32).toNatClampNeg = 1 := rfl
  have oa : ¬ q_oob (nI a) 8 := o_in a8 (by decide)
  have ob : ¬ q_oob (nI b) 8 := o_in b8 (by decide)
  have ca : (nI a).toNatClampNeg = a := z_cl (n := a) (by omega)
  have cb : (nI b).toNatClampNeg = b := z_cl (n := b) (by omega)
  have J90 : ∀ τ : Sg, ∃ σ2, f_X6_game_J90 τ 1 (m_f1 d) = some (σ2, m_f1 d - τ 29 0) ∧ (∀ o, o ≠ 26 → o ≠ 29 → o ≠ 35 → o ≠ 36 → σ2 o = τ o) ∧ (∀ k, k ≠ 4 → σ2 26 k = τ 26 k) ∧ σ2 26 4 = 0 ∧ σ2 29 0 = τ 29 0 ∧ σ2 29 1 = m_f1 d ∧ ∀ k, k < 151 → σ2 35 k = -1 ∧ σ2 36 k = 0 := by
    intro τ
    unfold f_X6_game_J90
    obtain ⟨σ2, d1, d2, d3⟩ := m_forget (q_wr (q_wr τ 29 1 (m_f1 d)) 26 4 0) (k := 0) (by decide)
    have g0 : σ2 29 0 = τ 29 0 := by rw [d2 29 (by decide) (by decide), w_ne _ _ _ (by decide), w_at, if_neg (by decide)]
    have g1 : σ2 29 1 = m_f1 d := by rw [d2 29 (by decide) (by decide), w_ne _ _ _ (by decide), w_at, if_pos ⟨rfl, rfl⟩]
    refine ⟨σ2, ?_, fun o h1 h2 h3 h4 => ?_, fun k hk => ?_, ?_, g0, g1, fun k hk => ?_⟩
    · rw [if_neg o21, ls_eq, ls_eq]
      show q_bnd (f_X6_forget (q_wr (q_wr τ 29 1 (m_f1 d)) 26 4 0) (nI 0)) (fun s21 _ => if q_oob (1 : Int32) 2 then none else if q_oob (0 : Int32) 2 then none else some (s21, s21 29 1 - s21 29 0)) = _
      rw [d1, b_some, if_neg o21, if_neg o20, g0, g1]
    · rw [d2 o h3 h4, w_ne _ _ _ h1, w_ne _ _ _ h2]
    · rw [d2 26 (by decide) (by decide), w_at, if_neg (fun z => hk z.2), w_ne _ _ _ (by decide)]
    · rw [d2 26 (by decide) (by decide), w_at, if_pos ⟨rfl, rfl⟩]
    · obtain ⟨z1, z2⟩ := d3 k hk
      rw [z1, z2, if_pos (Nat.zero_le _), if_pos (Nat.zero_le _)]
      exact ⟨rfl, rfl⟩
  have J71 : ∀ τ : Sg, f_X6_game_J71 τ d 0 (m_f0 d) = f_X6_game_J90 (q_wr τ 29 0 (m_f0 d)) 1 (m_f1 d) := by
    intro τ
    unfold f_X6_game_J71 m_f1
    rw [if_neg o20, ls_eq, t0]
    by_cases h : d ≤ 0
    · rw [if_pos h, if_pos h]
    · rw [if_neg h, if_neg h]
  obtain ⟨σ2, d1, d2, d3, d4, d5, d6, d7⟩ := J90 (q_wr (q_wr (q_wr (q_wr σ1 26 1 1) 28 0 (nI a)) 28 1 (nI b)) 29 0 (m_f0 d))
  have g29 : q_wr (q_wr (q_wr (q_wr σ1 26 1 1) 28 0 (nI a)) 28 1 (nI b)) 29 0 (m_f0 d) 29 0 = m_f0 d := by rw [w_at, if_pos ⟨rfl, rfl⟩]
  rw [g29] at d1 d5
  rw [w3] at d1
  have h28 : ∀ k, σ2 28 k = if k = 1 then nI b else if k = 0 then nI a else σ1 28 k := by
    intro k
    rw [d2 28 (by decide) (by decide) (by decide) (by decide)]
    simp [w_at]
  have h26 : ∀ k, k ≠ 4 → σ2 26 k = if k = 1 then 1 else σ1 26 k := by
    intro k hk
    rw [d3 k hk]
    simp [w_at]
  have ho : ∀ o, o ≠ 26 → ¬ (28 ≤ o ∧ o ≤ 38) → σ2 o = σ1 o := by
    intro o h1 h2
    rw [d2 o h1 (by omega) (by omega) (by omega), w_ne _ _ _ (by omega), w_ne _ _ _ (by omega), w_ne _ _ _ (by omega), w_ne _ _ _ h1]
  refine ⟨σ1, σ2, m_r d, rfl, F1, ?_, ⟨ho, fun k hk => by rw [h26 k (by omega), if_neg (by omega)]⟩, Or.inr ⟨0, by decide, ?_, ?_, ?_, ?_, fun k hk => absurd hk (by omega), fun k hk => ?_, fun k h0 hk => ?_, ?_, ?_, ⟨a, b, a8, b8, ab, ?_, ?_, ?_, ?_⟩, ?_⟩⟩
  · have hb27 : (20 : Int32) - q_wr (q_wr (q_wr σ1 26 1 1) 28 0 (nI a)) 28 1 (nI b) 27 (nI b).toNatClampNeg / 100 = nI i := by
      rw [cb, w_ne _ _ _ (by decide), w_ne _ _ _ (by decide), w_ne _ _ _ (by decide), F1 27 (by decide), (hR b b8).1]
      exact ei
    have ha27 : (20 : Int32) - q_wr (q_wr (q_wr σ1 26 1 1) 28 0 (nI a)) 28 1 (nI b) 27 (nI a).toNatClampNeg / 100 = nI j := by
      rw [ca, w_ne _ _ _ (by decide), w_ne _ _ _ (by decide), w_ne _ _ _ (by decide), F1 27 (by decide), (hR a a8).1]
      exact ej
    unfold f_X6_handicapOf
    rw [r_isPlayerM, b_some, if_pos hx, if_neg n10, r_isPlayerM, b_some, if_pos hy, if_neg n10, if_neg hxy, ls_eq, if_neg o20, ls_eq, t0, if_neg o21, ls_eq, t1, if_neg ob, b_some, hb27, if_neg oa, b_some, ha27, l_eq, hd]
    by_cases h : 0 ≤ d
    · rw [if_pos h]
      have e : m_f0 d = 0 := by unfold m_f0; rw [if_pos h]
      have q := J71 (q_wr (q_wr (q_wr σ1 26 1 1) 28 0 (nI a)) 28 1 (nI b))
      rw [e] at q d1
      rw [q]
      exact d1
    · rw [if_neg h]
      have e : m_f0 d = (1 - d) / 2 := by unfold m_f0; rw [if_neg h]
      rw [← e, J71]
      exact d1
  · rw [ho 1 (by decide) (by decide), f1]; exact e9
  · rw [h26 1 (by decide), if_pos rfl]
  · rw [ho 1 (by decide) (by decide), f1]; exact e10
  · exact d4
  · have : k = 0 := by omega
    subst this
    refine ⟨0, by decide, ?_, Or.inl ⟨rfl, (d7 0 (by decide)).2, (d7 0 (by decide)).1⟩⟩
    rw [ho 7 (by decide) (by decide), f7]
    exact e7
  · exact ⟨(d7 k hk).2, (d7 k hk).1⟩
  · rw [d5, ho 1 (by decide) (by decide), f1, e11]
  · rw [d6, ho 1 (by decide) (by decide), f1, e12]
  · rw [ho 8 (by decide) (by decide), f8, e8]; rfl
  · rw [ho 8 (by decide) (by decide), f8, e8]; rfl
  · rw [h28]; rfl
  · rw [h28]; rfl
  · rw [vC_c (o := 9) (ho 9 (by decide) (by decide)) (ho 10 (by decide) (by decide)) (ho 11 (by decide) (by decide)), c2]
    show _ = pObey (pB (σ2 1 11) (σ2 1 12)) (σ2 7 0).toNatClampNeg
    rw [ho 1 (by decide) (by decide), ho 7 (by decide) (by decide), f1, f7, e7]
    rfl
