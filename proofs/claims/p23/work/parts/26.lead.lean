/-! the class's positions: who has won, what may be done, what is done -/
def pWin (p : Ps) : Int32 := if p 0 = 7 ∧ p 2 = 7 then 0 else if p 1 = 7 ∧ p 3 = 7 then 1 else -4
def V (p : Ps) : Prop := (p 7 = -4 ∨ ∃ b, b < 4 ∧ p 7 = nI b) ∧ (p 6 = nI 0 ∨ p 6 = nI 1) ∧ (p 11 = -4 ∨ ∃ b, b < 4 ∧ p 11 = nI b) ∧ (p 7 = -4 → p 8 = 0 ∧ p 9 = 0 ∧ p 10 = -4) ∧ (¬ p 7 = -4 → p 10 = -4 → p 8 = 1) ∧ (¬ p 7 = -4 → ¬ p 10 = -4 → p 8 = 0)
def pCan (p : Ps) (k b : Nat) : Prop := match k with
  | 0 => p 7 = -4 ∧ ¬ p b = 7
  | 1 => ¬ p 7 = -4 ∧ p 10 = -4
  | 2 => ¬ p 7 = -4 ∧ p 10 = -4 ∧ ¬ 6 ≤ p (p 7).toNatClampNeg
  | 3 => ¬ p 7 = -4 ∧ p 10 = -4 ∧ ¬ nI b = p 7 ∧ ¬ p b = 7
  | 4 => ¬ p 7 = -4 ∧ ¬ p 10 = -4
  | 5 => ¬ p 7 = -4 ∧ p 10 = -4 ∧ p (p 7).toNatClampNeg = 6
  | _ => p 7 = -4 ∧ ¬ p 11 = -4 ∧ ¬ p (p 11).toNatClampNeg = 7 ∧ ¬ p (4 + (1 - p 6).toNatClampNeg) ≤ 0
theorem nb_4 {b : Nat} (h : b < 4) : ¬ nI b = -4 := by
  intro e
  have h1 := z_nI (n := b) (by omega)
  rw [e] at h1
  have h2 : (-4 : Int32).toInt = -4 := by decide
  omega
theorem nb_neg {b : Nat} (h : b < 4) : ¬ nI b < 0 := nI_pos (by omega)
theorem s_fl {x : Int32} (h : x = nI 0 ∨ x = nI 1) : ∃ t, t < 2 ∧ 1 - x = nI t ∧ (1 - x = nI 0 ∨ 1 - x = nI 1) ∧ 1 - (1 - x) = x := by
  rcases h with rfl | rfl
  · exact ⟨1, by decide, by decide, Or.inr (by decide), by decide⟩
  · exact ⟨0, by decide, by decide, Or.inl (by decide), by decide⟩
theorem c_isOut (o : Nat) (σ : Sg) {b : Nat} (hb : b < 4) : f_X3_isOut o σ (nI b) = some (σ, if vC o σ b = 7 then 1 else 0) := by
  unfold f_X3_isOut
  rw [r_at (a := o + 1) (n := 4) σ hb (by decide), b_some, vC_h σ hb]
  by_cases h : σ (o + 1) b = 7
  · rw [if_pos h, if_pos h]
  · rw [if_neg h, if_neg h]
theorem c_winner (o : Nat) (σ : Sg) : f_X3_winner o σ = some (σ, pWin (vC o σ)) := by
  have h0 : f_X3_isOut o σ 0 = _ := c_isOut o σ (b := 0) (by decide)
  have h1 : f_X3_isOut o σ 1 = _ := c_isOut o σ (b := 1) (by decide)
  have h2 : f_X3_isOut o σ 2 = _ := c_isOut o σ (b := 2) (by decide)
  have h3 : f_X3_isOut o σ 3 = _ := c_isOut o σ (b := 3) (by decide)
  by_cases a0 : vC o σ 0 = 7 <;> by_cases a1 : vC o σ 1 = 7 <;> by_cases a2 : vC o σ 2 = 7 <;> by_cases a3 : vC o σ 3 = 7 <;> simp [f_X3_winner, f_X3_winner_J18, pWin, h0, h1, h2, h3, b_some, a0, a1, a2, a3]
theorem c_obey (o : Nat) (σ : Sg) {r : Nat} (hr : r < 4) : ∃ σ', f_X2_obey o σ (nI r) = some (σ', 0) ∧ vC o σ' = pObey (vC o σ) r ∧ Fo o σ σ' := by
  unfold f_X2_obey
  match r, hr with
  | 0, _ =>
    rw [if_neg (by decide), if_pos (by decide)]
    exact ⟨σ, rfl, rfl, fun _ _ _ _ => rfl⟩
  | 1, _ =>
    obtain ⟨σ', g1, g2, g3⟩ := c_end o σ
    rw [if_pos (by decide), g1, b_some]
    exact ⟨σ', rfl, g2, g3⟩
  | 2, _ =>
    obtain ⟨σ', g1, g2, g3⟩ := c_stop o σ (nI 0)
    rw [if_neg (by decide), if_neg (by decide), show (nI 2 : Int32) - 2 = nI 0 by decide, g1, b_some]
    exact ⟨σ', rfl, g2, g3⟩
  | 3, _ =>
    obtain ⟨σ', g1, g2, g3⟩ := c_stop o σ (nI 1)
    rw [if_neg (by decide), if_neg (by decide), show (nI 3 : Int32) - 2 = nI 1 by decide, g1, b_some]
    exact ⟨σ', rfl, g2, g3⟩
  | n + 4, h => exact absurd h (by omega)
theorem c_begin (o : Nat) (σ : Sg) (f0 f1 : Int32) : ∃ σ', f_X3_begin o σ f0 f1 = some (σ', 0) ∧ vC o σ' = pB f0 f1 ∧ Fo o σ σ' := by
  unfold f_X3_begin
  obtain ⟨σ1, a1, a2, a3⟩ := r_fill (a := o + 1) (n := 4) (by decide) 0 σ
  have s0 := r_set (a := o + 2) (n := 2) (k := 0) σ1 f0 (by decide) (by decide)
  have s1 := r_set (a := o + 2) (n := 2) (k := 1) (q_wr σ1 (o + 2) 0 f0) f1 (by decide) (by decide)
  obtain ⟨σ2, b1, b2, b3⟩ := c_stop o (q_wr (q_wr σ1 (o + 2) 0 f0) (o + 2) 1 f1) 0
  rw [a1, b_some, show f_X5_set (o + 2) 2 σ1 0 f0 = _ from s0, b_some, show f_X5_set (o + 2) 2 _ 1 f1 = _ from s1, b_some, b1, b_some]
  refine ⟨σ2, rfl, ?_, fun o' x0 x1 x2 => ?_⟩
  · rw [b2, vC_2 _ _ (by decide), vC_2 _ _ (by decide)]
    funext i
    simp only [pStop, upd, pB]
    by_cases h : i < 4
    · have e : vC o σ1 i = 0 := by rw [vC_h _ h, a3, if_pos h]
      simp [h, e, show i ≠ 11 by omega, show i ≠ 10 by omega, show i ≠ 9 by omega, show i ≠ 8 by omega, show i ≠ 7 by omega, show i ≠ 6 by omega, show i ≠ 5 by omega, show i ≠ 4 by omega]
    · rw [if_neg h]
      by_cases h4 : i = 4
      · subst h4; simp
      by_cases h5 : i = 5
      · subst h5; simp
      by_cases h6 : i = 6
      · subst h6; simp
      by_cases h7 : i = 7
      · subst h7; simp
      by_cases h8 : i = 8
      · subst h8; simp
      by_cases h9 : i = 9
      · subst h9; simp
      by_cases h10 : i = 10
      · subst h10; simp
      by_cases h11 : i = 11
      · subst h11; simp
      simp only [h4, h5, h6, h7, h8, h9, h10, h11, if_false]
      simp [vC, h, show ¬ i < 6 by omega, show ¬ i < 12 by omega]
  · rw [b3 o' x0 x1 x2, w_ne _ _ _ x2, w_ne _ _ _ x2, a2 o' x1]
theorem c_lead (o : Nat) (σ : Sg) {k b : Nat} (hk : k ≤ 6) (hb : b < 4) (hV : V (vC o σ)) (hc : pCan (vC o σ) k b) : ∃ σ', f_X3_lead o σ (nI k) (nI b) = some (σ', 0) ∧ vC o σ' = pLead (vC o σ) k (nI b) ∧ Fo o σ σ' := by
  obtain ⟨v7, v6, v11, v0, v1, v2⟩ := hV
  unfold f_X3_lead
  match k, hk, hc with
  | 0, _, hc =>
    rw [if_neg (by decide), if_neg (by decide), if_pos (by decide)]
    obtain ⟨σ', g1, g2, g3⟩ := c_bring o σ (nI b)
    rw [g1, b_some]
    exact ⟨σ', rfl, g2, g3⟩
  | 1, _, hc =>
    rw [if_neg (by decide), if_neg (by decide), if_neg (by decide), if_pos (by decide)]
    obtain ⟨σ', g1, g2, g3⟩ := c_end o σ
    rw [g1, b_some]
    exact ⟨σ', rfl, g2, g3⟩
  | 2, _, hc =>
    rw [if_neg (by decide), if_neg (by decide), if_neg (by decide), if_neg (by decide), if_pos (by decide)]
    obtain ⟨h7, h10, h⟩ := hc
    obtain ⟨c, c4, ec⟩ := v7.resolve_left h7
    have e3 : σ o 3 = nI c := ec
    rw [e3, r_at (a := o + 1) (n := 4) σ c4 (by decide), b_some, r_set (a := o + 1) (n := 4) σ _ c4 (by decide), b_some]
    rw [show q_wr σ (o + 1) c (σ (o + 1) c + 1) o 3 = nI c by rw [w_ne _ _ _ (by omega)]; exact e3]
    obtain ⟨σ', g1, g2, g3⟩ := c_bring o (q_wr σ (o + 1) c (σ (o + 1) c + 1)) (nI c)
    rw [g1, b_some]
    refine ⟨σ', rfl, ?_, Fo_t (Fo_w (Or.inr (Or.inl rfl))) g3⟩
    rw [g2, vC_1 _ _ c4]
    show _ = pBring (upd (vC o σ) (vC o σ 7).toNatClampNeg (vC o σ (vC o σ 7).toNatClampNeg + 1)) (vC o σ 7)
    rw [ec, z_cl (n := c) (by omega), vC_h σ c4]
  | 3, _, hc =>
    rw [if_neg (by decide), if_neg (by decide), if_neg (by decide), if_neg (by decide), if_neg (by decide), if_pos (by decide)]
    unfold f_X3_roquet
    rw [ls_eq, ls_eq, ls_eq, b_some]
    refine ⟨_, rfl, ?_, Fo_t (Fo_t (Fo_w (Or.inl rfl)) (Fo_w (Or.inl rfl))) (Fo_w (Or.inl rfl))⟩
    rw [vC_o _ _ (by decide) (by decide), vC_o _ _ (by decide) (by decide), vC_o _ _ (by decide) (by decide), show q_wr σ o 4 (σ o 4 - 1) o 5 = σ o 5 by rw [w_at, if_neg (by omega)]]
    rfl
  | 4, _, hc =>
    rw [if_neg (by decide), if_neg (by decide), if_neg (by decide), if_neg (by decide), if_neg (by decide), if_neg (by decide), if_pos (by decide)]
    unfold f_X3_croquet
    rw [ls_eq, ls_eq, b_some]
    refine ⟨_, rfl, ?_, Fo_t (Fo_w (Or.inl rfl)) (Fo_w (Or.inl rfl))⟩
    rw [vC_o _ _ (by decide) (by decide), vC_o _ _ (by decide) (by decide)]
    rfl
  | 5, _, hc =>
    rw [if_neg (by decide), if_neg (by decide), if_neg (by decide), if_neg (by decide), if_neg (by decide), if_neg (by decide), if_neg (by decide), if_pos (by decide)]
    obtain ⟨h7, h10, h⟩ := hc
    obtain ⟨c, c4, ec⟩ := v7.resolve_left h7
    have e3 : σ o 3 = nI c := ec
    rw [e3, r_set (a := o + 1) (n := 4) σ _ c4 (by decide), b_some]
    obtain ⟨σ', g1, g2, g3⟩ := c_end o (q_wr σ (o + 1) c 7)
    rw [g1, b_some]
    refine ⟨σ', rfl, ?_, Fo_t (Fo_w (Or.inr (Or.inl rfl))) g3⟩
    rw [g2, vC_1 _ _ c4]
    show _ = pEnd (upd (vC o σ) (vC o σ 7).toNatClampNeg 7)
    rw [ec, z_cl (n := c) (by omega)]
  | 6, _, hc =>
    rw [if_neg (by decide), if_pos (by decide)]
    unfold f_X3_lead_J125 f_X3_spendFree
    obtain ⟨t, t2, et, et', ets⟩ := s_fl v6
    have e2 : 1 - σ o 2 = nI t := et
    rw [e2, ls_eq, show q_wr σ o 2 (nI t) o 2 = nI t by rw [w_at, if_pos ⟨rfl, rfl⟩], r_at (a := o + 2) (n := 2) _ t2 (by decide), b_some, r_set (a := o + 2) (n := 2) _ _ t2 (by decide), b_some, b_some]
    rw [show q_wr σ o 2 (nI t) (o + 2) t = σ (o + 2) t by rw [w_at, if_neg (by omega)]]
    rw [show q_wr (q_wr σ o 2 (nI t)) (o + 2) t (σ (o + 2) t - 1) o 7 = σ o 7 by rw [w_at, if_neg (by omega), w_at, if_neg (by omega)]]
    obtain ⟨σ', g1, g2, g3⟩ := c_bring o (q_wr (q_wr σ o 2 (nI t)) (o + 2) t (σ (o + 2) t - 1)) (σ o 7)
    rw [g1, b_some]
    refine ⟨σ', rfl, ?_, Fo_t (Fo_t (Fo_w (Or.inl rfl)) (Fo_w (Or.inr (Or.inr rfl)))) g3⟩
    rw [g2, vC_2 _ _ t2, vC_o _ _ (by decide) (by decide)]
    show _ = pBring (upd (upd (vC o σ) 6 (1 - vC o σ 6)) (4 + (1 - vC o σ 6).toNatClampNeg) (vC o σ (4 + (1 - vC o σ 6).toNatClampNeg) - 1)) (vC o σ 11)
    rw [et, z_cl (n := t) (by omega)]
    have e4 : vC o σ (4 + t) = σ (o + 2) t := by
      simp only [vC]
      rw [if_neg (by omega), if_pos (by omega)]
      congr 1
      omega
    rw [e4, show t + 4 = 4 + t by omega]
    rfl
  | n + 7, h, _ => exact absurd h (by omega)
