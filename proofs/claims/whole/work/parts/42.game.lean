/-! a game is begun, a game is settled -/
theorem pWin_v (p : Ps) : pWin p = -4 ∨ ∃ v, v < 2 ∧ pWin p = nI v := by
  unfold pWin
  by_cases a : p 0 = 7 ∧ p 2 = 7
  · rw [if_pos a]; exact Or.inr ⟨0, by decide, rfl⟩
  · rw [if_neg a]
    by_cases b : p 1 = 7 ∧ p 3 = 7
    · rw [if_pos b]; exact Or.inr ⟨1, by decide, rfl⟩
    · rw [if_neg b]; exact Or.inl rfl
theorem one_v {v : Nat} (h : v < 2) : (1 : Int32) - nI v = nI (1 - v) := by
  match v, h with
  | 0, _ => rfl
  | 1, _ => rfl
  | n + 2, h => exact absurd h (by omega)
abbrev Fc2 (σ τ : Sg) : Prop := ∀ o, ¬ (1 ≤ o ∧ o ≤ 14) → o ≠ 22 → τ o = σ o
abbrev Fr2 (σ τ : Sg) : Prop := (∀ o, o ≠ 26 → ¬ (27 ≤ o ∧ o ≤ 38) → τ o = σ o) ∧ ∀ k, 22 ≤ k → τ 26 k = σ 26 k
theorem p_settle {σ : Sg} (H : RG σ) (hR : RR σ) : ∃ σ1 σ2 r, f_X5_settle σ = some (σ1, r) ∧ Fc2 σ σ1 ∧ f_X6_settle σ1 = some (σ2, r) ∧ Fr2 σ1 σ2 ∧ RG σ2 ∧ RR σ2 := by
  unfold f_X5_settle f_X6_settle f_X2_winner
  have H' := H
  rcases H with ⟨h9, h10, h1⟩ | ⟨S, G⟩
  · refine ⟨σ, σ, -2, ?_, fun _ _ _ => rfl, ?_, ⟨fun _ _ _ => rfl, fun _ _ => rfl⟩, H', hR⟩
    · rw [if_pos h9, b_some, if_pos rfl]
    · rw [if_pos h1]
  have hS := G.1
  have h9 := G.2.1
  have g1 := G.2.2.1
  have h4 := G.2.2.2.2.1
  obtain ⟨x, y, x8, y8, xy, p0, p1, q0, q1⟩ := G.2.2.2.2.2.2.2.2.2.2.1
  have hv := G.2.2.2.2.2.2.2.2.2.2.2
  rw [if_neg (show ¬ σ 1 9 = 0 by rw [h9]; decide), c_winner, b_some, b_some, hv]
  rcases pWin_v (rp σ S) with w | ⟨v, v2, w⟩
  · obtain ⟨τ, b1, b2, b3⟩ := m_goTo G (Nat.le_refl S)
    refine ⟨σ, τ, -2, ?_, fun _ _ _ => rfl, ?_, ⟨fun o a b => b3.1 o a (by omega) (by omega), fun k hk => b3.2 k (by omega)⟩, RG_m b3 H', RR_c (b3.1 22 (by decide) (by decide) (by decide)) (b3.1 27 (by decide) (by decide) (by decide)) hR⟩
    · rw [w, if_pos rfl]
    · rw [if_neg (show ¬ σ 26 1 = 0 by rw [g1]; decide), h4, b1, b_some, m_won b2.1, b_some, w, if_pos rfl]
  · obtain ⟨a, b, a8, b8, ab, ea, eb, fa, fb⟩ : ∃ a b, a < 8 ∧ b < 8 ∧ a ≠ b ∧ σ 8 v = nI a ∧ σ 8 (1 - v) = nI b ∧ σ 28 v = nI a ∧ σ 28 (1 - v) = nI b := by
      match v, v2 with
      | 0, _ => exact ⟨x, y, x8, y8, xy, p0, p1, q0, q1⟩
      | 1, _ => exact ⟨y, x, y8, x8, xy.symm, p1, p0, q1, q0⟩
      | n + 2, h => exact absurd h (by omega)
    have nw : ¬ nI v = -4 := nb_4 (by omega)
    have R22 : ∀ (τ : Sg) {k : Nat}, k < 8 → f_X5_at 22 8 τ (nI k) = some (τ, τ 22 k) := fun τ k hk => r_at (a := 22) (n := 8) τ hk (by decide)
    have S22 : ∀ (τ : Sg) (z : Int32) {k : Nat}, k < 8 → f_X5_set 22 8 τ (nI k) z = some (q_wr τ 22 k z, 0) := fun τ z k hk => r_set (a := 22) (n := 8) τ z hk (by decide)
    have R8 : ∀ (τ : Sg) {k : Nat}, k < 2 → f_X5_at 8 2 τ (nI k) = some (τ, τ 8 k) := fun τ k hk => r_at (a := 8) (n := 2) τ hk (by decide)
    have l1 : (1 : Int32) < 19 := by decide
    have l2 : (0 : Int32) < 2000 := by decide
    generalize hδ : hld (10 - (σ 22 a - σ 22 b) / 20) 1 19 = δ
    generalize hA : hld (σ 22 a + δ) 0 2000 = A
    generalize hB : hld (σ 22 b - δ) 0 2000 = B
    have rA := hld_r (σ 22 a + δ) 0 2000 l2
    have rB := hld_r (σ 22 b - δ) 0 2000 l2
    rw [hA] at rA
    rw [hB] at rB
    have z0 : (0 : Int32).toInt = 0 := rfl
    have z2 : (2000 : Int32).toInt = 2000 := rfl
    rw [z0, z2] at rA rB
    have e1 : (if nI v = -4 then some (σ, (-2 : Int32)) else q_bnd (f_X2_playerOf σ (nI v)) fun s4 r5 => q_bnd (f_X2_playerOf s4 (1 - nI v)) fun s6 r7 => q_bnd (f_X4_move s6 r5 r7) fun s8 r9 => q_bnd (f_X2_end s8) fun s10 _ => some (s10, r9)) = some (q_wr (q_wr (q_wr (q_wr σ 22 a A) 22 b B) 1 9 0) 1 10 0, δ) := by
      rw [if_neg nw]
      unfold f_X2_playerOf f_X4_move f_X2_end
      rw [R8 _ v2, b_some, b_some, one_v v2, R8 _ (show 1 - v < 2 by omega), b_some, b_some, ea, eb, R22 _ a8, b_some, R22 _ b8, b_some, c_held _ _ _ _ l1, b_some, hδ, c_held _ _ _ _ l2, b_some, hA, S22 _ _ a8, b_some, c_held _ _ _ _ l2, b_some, hB, S22 _ _ b8, b_some, b_some, ls_eq, ls_eq, b_some]
    rw [w, e1]
    have F1 : Fc2 σ (q_wr (q_wr (q_wr (q_wr σ 22 a A) 22 b B) 1 9 0) 1 10 0) := fun o ho h22 => by rw [w_ne _ _ _ (by omega), w_ne _ _ _ (by omega), w_ne _ _ _ h22, w_ne _ _ _ h22]
    have e19 : (q_wr (q_wr (q_wr (q_wr σ 22 a A) 22 b B) 1 9 0) 1 10 0) 1 9 = 0 := by simp [w_at]
    have e110 : (q_wr (q_wr (q_wr (q_wr σ 22 a A) 22 b B) 1 9 0) 1 10 0) 1 10 = 0 := by simp [w_at]
    have e22 : ∀ i, (q_wr (q_wr (q_wr (q_wr σ 22 a A) 22 b B) 1 9 0) 1 10 0) 22 i = if i = b then B else if i = a then A else σ 22 i := by
      intro i
      rw [w_ne _ _ _ (by decide), w_ne _ _ _ (by decide), w_at, w_at]
      simp
    generalize (q_wr (q_wr (q_wr (q_wr σ 22 a A) 22 b B) 1 9 0) 1 10 0) = σ1 at F1 e19 e110 e22
    obtain ⟨τ, b1, b2, b3⟩ := m_goToE (σ := σ1) G ⟨F1 29 (by decide) (by decide), F1 30 (by decide) (by decide), F1 31 (by decide) (by decide), F1 35 (by decide) (by decide), F1 36 (by decide) (by decide)⟩ (Nat.le_refl S)
    have e26 : σ1 26 = σ 26 := F1 26 (by decide) (by decide)
    have t28 : τ 28 = σ 28 := by rw [b3.1 28 (by decide) (by decide) (by decide), F1 28 (by decide) (by decide)]
    have t27 : τ 27 = σ 27 := by rw [b3.1 27 (by decide) (by decide) (by decide), F1 27 (by decide) (by decide)]
    have oa : ¬ q_oob (nI a) 8 := o_in a8 (by decide)
    have ob : ¬ q_oob (nI b) 8 := o_in b8 (by decide)
    have ov : ¬ q_oob (nI v) 2 := o_in v2 (by decide)
    have ow : ¬ q_oob (nI (1 - v)) 2 := o_in (show 1 - v < 2 by omega) (by decide)
    have ca : (nI a).toNatClampNeg = a := z_cl (n := a) (by omega)
    have cb : (nI b).toNatClampNeg = b := z_cl (n := b) (by omega)
    have cv : (nI v).toNatClampNeg = v := z_cl (n := v) (by omega)
    have cw : (nI (1 - v)).toNatClampNeg = 1 - v := z_cl (n := 1 - v) (by omega)
    have ta : τ 27 (nI a).toNatClampNeg = σ 22 a := by rw [ca, t27, (hR a a8).1]
    have tb : τ 27 (nI b).toNatClampNeg = σ 22 b := by rw [cb, t27, (hR b b8).1]
    refine ⟨σ1, q_wr (q_wr (q_wr τ 27 a A) 27 b B) 26 1 0, δ, rfl, F1, ?_, ⟨fun o o26 h => ?_, fun k hk => ?_⟩, Or.inl ⟨?_, ?_, ?_⟩, ?_⟩
    · rw [if_neg (show ¬ σ1 26 1 = 0 by rw [e26, g1]; decide), e26, h4, b1, b_some, m_won b2.1, b_some, w, if_neg nw, if_neg ov, l_eq, cv, t28, fa, one_v v2, if_neg ow, l_eq, cw, fb, if_neg oa, if_neg ob, ta, tb, m_held, b_some, hδ, if_neg oa, ta, m_held, b_some, hA, if_neg oa, ls_eq, if_neg ob, show q_wr τ 27 (nI a).toNatClampNeg A 27 (nI b).toNatClampNeg = σ 22 b by rw [ca, cb, w_at, if_neg (fun z => ab z.2.symm), t27, (hR b b8).1], m_held, b_some, hB, if_neg ob, ca, cb, ls_eq, ls_eq]
    · rw [w_ne _ _ _ o26, w_ne _ _ _ (by omega), w_ne _ _ _ (by omega)]
      exact b3.1 o o26 (by omega) (by omega)
    · rw [w_at, if_neg (by omega), w_ne _ _ _ (by decide), w_ne _ _ _ (by decide)]
      exact b3.2 k (by omega)
    · rw [w_ne _ _ _ (by decide), w_ne _ _ _ (by decide), w_ne _ _ _ (by decide), b3.1 1 (by decide) (by decide) (by decide)]
      exact e19
    · rw [w_ne _ _ _ (by decide), w_ne _ _ _ (by decide), w_ne _ _ _ (by decide), b3.1 1 (by decide) (by decide) (by decide)]
      exact e110
    · rw [w_at, if_pos ⟨rfl, rfl⟩]
    · intro i hi
      obtain ⟨h1, h2, h3⟩ := hR i hi
      have e27' : q_wr (q_wr (q_wr τ 27 a A) 27 b B) 26 1 0 27 i = if i = b then B else if i = a then A else σ 27 i := by
        rw [w_ne _ _ _ (by decide), w_at, w_at, t27]
        simp
      have e22' : q_wr (q_wr (q_wr τ 27 a A) 27 b B) 26 1 0 22 i = if i = b then B else if i = a then A else σ 22 i := by
        rw [w_ne _ _ _ (by decide), w_ne _ _ _ (by decide), w_ne _ _ _ (by decide), b3.1 22 (by decide) (by decide) (by decide)]
        exact e22 i
      rw [e27', e22', h1]
      by_cases ib : i = b
      · rw [if_pos ib]
        exact ⟨rfl, rB⟩
      · rw [if_neg ib]
        by_cases ia : i = a
        · rw [if_pos ia]
          exact ⟨rfl, rA⟩
        · rw [if_neg ia]
          exact ⟨rfl, h2, h3⟩
/-! the turns that are free -/
def m_r (d : Int32) : Int32 := if 0 ≤ d then ((if 0 ≤ d then d else 0 - d) + 1) / 2 else -(((if 0 ≤ d then d else 0 - d) + 1) / 2)
def m_f0 (d : Int32) : Int32 := if 0 ≤ d then 0 else (1 - d) / 2
def m_f1 (d : Int32) : Int32 := if d ≤ 0 then 0 else (d + 1) / 2
theorem m_rf : ∀ i : Nat, i < 21 → ∀ j : Nat, j < 21 → ((if 0 < -(m_r (nI i - nI j)) then -(m_r (nI i - nI j)) else 0) = m_f0 (nI i - nI j) ∧ (if 0 < m_r (nI i - nI j) then m_r (nI i - nI j) else 0) = m_f1 (nI i - nI j) ∧ m_f1 (nI i - nI j) - m_f0 (nI i - nI j) = m_r (nI i - nI j)) := by decide +kernel
theorem m_hcn {v : Int32} (h : 0 ≤ v.toInt ∧ v.toInt ≤ 2000) : ∃ k, k < 21 ∧ m_hc v = nI k := by
  obtain ⟨h1, h2⟩ := m_hcr h
  obtain ⟨k, hk, e⟩ := nI_of2 (x := m_hc v) (M := 20) (n := 20) (by decide) (by rw [z_lt, show (0 : Int32).toInt = 0 from rfl]; omega) (by rw [z_le, show (20 : Int32).toInt = 20 from rfl]; exact h2)
  exact ⟨k, by omega, e⟩
/-- the reference forgets its rulings -/
theorem m_forgetL : ∀ (d k q : Nat) (τ : Sg), k + d = 151 → d < q → ∃ τ', f_X6_forget_L2 q τ (nI k) = some (τ', 0) ∧ (∀ o, o ≠ 35 → o ≠ 36 → τ' o = τ o) ∧ ∀ i, i < 151 → τ' 35 i = (if k ≤ i then -1 else τ 35 i) ∧ τ' 36 i = if k ≤ i then 0 else τ 36 i := by
  intro d
  induction d with
  | zero =>
    intro k q τ hk hq
    obtain ⟨q, rfl⟩ : ∃ p, q = p + 1 := ⟨q - 1, by omega⟩
    have : k = 151 := by omega
    subst this
    refine ⟨τ, ?_, fun _ _ _ => rfl, fun i hi => ?_⟩
    · show s_X6_forget_L2 (f_X6_forget_L2 q) τ (nI 151) = _
      unfold s_X6_forget_L2
      rw [if_pos (by decide)]
    · rw [if_neg (by omega), if_neg (by omega)]
      exact ⟨rfl, rfl⟩
  | succ d ih =>
    intro k q τ hk hq
    obtain ⟨q, rfl⟩ : ∃ p, q = p + 1 := ⟨q - 1, by omega⟩
    obtain ⟨τ', h1, h2, h3⟩ := ih (k + 1) q (q_wr (q_wr τ 35 k (-1)) 36 k 0) (by omega) (by omega)
    refine ⟨τ', ?_, fun o a b => by rw [h2 o a b, w_ne _ _ _ b, w_ne _ _ _ a], fun i hi => ?_⟩
    · show s_X6_forget_L2 (f_X6_forget_L2 q) τ (nI k) = _
      unfold s_X6_forget_L2
      have ok : ¬ q_oob (nI k) 151 := o_in (k := k) (n := 151) (by omega) (by decide)
      rw [if_neg (show ¬ (151 : Int32) ≤ nI k from nI_ge (b := 151) (by omega) (by decide)), if_neg ok, ls_eq, if_neg ok, ls_eq, z_cl (n := k) (by omega), l_eq, nI_1]
      exact h1
    · obtain ⟨a, b⟩ := h3 i hi
      have e35 : q_wr (q_wr τ 35 k (-1)) 36 k 0 35 i = if i = k then -1 else τ 35 i := by
        rw [w_ne _ _ _ (by decide), w_at]
        simp
      have e36 : q_wr (q_wr τ 35 k (-1)) 36 k 0 36 i = if i = k then 0 else τ 36 i := by
        rw [w_at, w_ne _ _ _ (by decide)]
        simp
      rw [a, b, e35, e36]
      by_cases e : i = k
      · rw [if_neg (show ¬ k + 1 ≤ i by omega), if_neg (show ¬ k + 1 ≤ i by omega), if_pos e, if_pos e, if_pos (show k ≤ i by omega), if_pos (show k ≤ i by omega)]
        exact ⟨rfl, rfl⟩
      · rw [if_neg e, if_neg e]
        by_cases g : k + 1 ≤ i
        · rw [if_pos g, if_pos g, if_pos (show k ≤ i by omega), if_pos (show k ≤ i by omega)]
          exact ⟨rfl, rfl⟩
        · rw [if_neg g, if_neg g, if_neg (show ¬ k ≤ i by omega), if_neg (show ¬ k ≤ i by omega)]
          exact ⟨rfl, rfl⟩
theorem m_forget (τ : Sg) {k : Nat} (hk : k ≤ 151) : ∃ τ', f_X6_forget τ (nI k) = some (τ', 0) ∧ (∀ o, o ≠ 35 → o ≠ 36 → τ' o = τ o) ∧ ∀ i, i < 151 → τ' 35 i = (if k ≤ i then -1 else τ 35 i) ∧ τ' 36 i = if k ≤ i then 0 else τ 36 i := m_forgetL (151 - k) k 1000 τ (by omega) (by omega)
