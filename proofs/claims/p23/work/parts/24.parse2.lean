theorem z_cla_b (t : Nat → Int32) (len a : Nat) : (z_cla t len a).1 ≤ max a len := by
  have ba := z_sb t len a
  have bb := z_sb t len (z_s t len a + 1)
  have bc := z_dg_ge t len 31 (z_s t len (z_s t len a + 1)) 0
  have bd := z_sb t len (z_dg t len 31 (z_s t len (z_s t len a + 1)) 0).1
  unfold z_cla
  by_cases q1 : z_s t len a < len ∧ (t (z_s t len a) = 112 ∨ t (z_s t len a) = 114)
  · rw [if_pos q1]
    split
    · show z_s t len (z_s t len a + 1) ≤ _; omega
    · split
      · rename_i h
        show z_s t len (z_dg t len 31 (z_s t len (z_s t len a + 1)) 0).1 + 1 ≤ _
        omega
      · show z_s t len (z_dg t len 31 (z_s t len (z_s t len a + 1)) 0).1 ≤ _
        omega
  · rw [if_neg q1]
    show z_s t len a ≤ _
    omega
def z_no : Lw := fun _ => none
def z_rd (t : Nat → Int32) (len : Nat) : Int32 × Lw :=
  if len ≤ z_s t len 0 then (0, z_no)
  else if (z_cla t len (z_s t len 0)).2 = none then (-20 - nI (z_cla t len (z_s t len 0)).1, z_no)
  else if len ≤ z_s t len (z_cla t len (z_s t len 0)).1 then (1, z_ap z_no (z_cla t len (z_s t len 0)).2)
  else if t (z_s t len (z_cla t len (z_s t len 0)).1) = 59 then
    (if (z_cla t len (z_s t len (z_cla t len (z_s t len 0)).1 + 1)).2 = none then (-20 - nI (z_cla t len (z_s t len (z_cla t len (z_s t len 0)).1 + 1)).1, z_no)
    else if len ≤ z_s t len (z_cla t len (z_s t len (z_cla t len (z_s t len 0)).1 + 1)).1 then (2, z_ap (z_ap z_no (z_cla t len (z_s t len 0)).2) (z_cla t len (z_s t len (z_cla t len (z_s t len 0)).1 + 1)).2)
    else (-20 - nI (z_s t len (z_cla t len (z_s t len (z_cla t len (z_s t len 0)).1 + 1)).1), z_no))
  else (-20 - nI (z_s t len (z_cla t len (z_s t len 0)).1), z_no)
theorem z_flt : ∀ k, k < 64 → (-20 - nI k : Int32) < 0 ∧ ¬ 0 ≤ (-20 - nI k : Int32) := by decide
theorem c_read {σ : Sg} {t : Nat → Int32} {len : Nat} (hl : len ≤ 30) (ht : ∀ i, i < len → 32 ≤ t i ∧ t i ≤ 126) (h : TC σ t len 0) (hd : DC σ z_no) :
    ∃ σ', f_X0_read σ = some (σ', (z_rd t len).1) ∧ (0 ≤ (z_rd t len).1 → DC σ' (z_rd t len).2) ∧ F15d σ σ' := by
  have b0 := z_sb t len 0
  have b1 := z_cla_b t len (z_s t len 0)
  have b2 := z_sb t len (z_cla t len (z_s t len 0)).1
  have b3 := z_cla_b t len (z_s t len (z_cla t len (z_s t len 0)).1 + 1)
  have b4 := z_sb t len (z_cla t len (z_s t len (z_cla t len (z_s t len 0)).1 + 1)).1
  obtain ⟨σ1, e1, e2, e3⟩ := c_atEnd hl (by omega) h
  unfold f_X0_read
  rw [e1, b_some]
  by_cases q1 : len ≤ z_s t len 0
  · rw [if_pos q1, if_neg (by decide)]
    have e : z_rd t len = (0, z_no) := by unfold z_rd; rw [if_pos q1]
    rw [e]
    exact ⟨σ1, rfl, fun _ => DC_f (fun k => e3 19 k (by omega)) (fun k => e3 20 k (by omega)) hd, fun o k h1 _ _ => e3 o k h1⟩
  · rw [if_neg q1, if_pos rfl]
    obtain ⟨σ2, g1, g2, g3, g4⟩ := c_clause hl ht (a := z_s t len 0) (by omega) e2 (DC_f (fun k => e3 19 k (by omega)) (fun k => e3 20 k (by omega)) hd)
    have f2 : F15d σ σ2 := fun o k h1 h2 h3 => (g4 o k h1 h2 h3).trans (e3 o k h1)
    rw [g1, b_some]
    by_cases q2 : (z_cla t len (z_s t len 0)).2 = none
    · rw [if_pos q2, if_pos rfl, g2.2.1]
      have e : z_rd t len = (-20 - nI (z_cla t len (z_s t len 0)).1, z_no) := by unfold z_rd; rw [if_neg q1, if_pos q2]
      rw [e]
      exact ⟨σ2, rfl, fun z => absurd z (z_flt _ (by omega)).2, f2⟩
    · rw [if_neg q2, if_neg (by decide)]
      obtain ⟨σ3, a1, a2, a3⟩ := c_atEnd hl (a := (z_cla t len (z_s t len 0)).1) (by omega) g2
      have f3 : F15d σ σ3 := fun o k h1 h2 h3 => (a3 o k h1).trans (f2 o k h1 h2 h3)
      have d3 : DC σ3 (z_ap z_no (z_cla t len (z_s t len 0)).2) := DC_f (fun k => a3 19 k (by omega)) (fun k => a3 20 k (by omega)) g3
      rw [a1, b_some]
      by_cases q3 : len ≤ z_s t len (z_cla t len (z_s t len 0)).1
      · rw [if_pos q3, if_neg (by decide)]
        have e : z_rd t len = (1, z_ap z_no (z_cla t len (z_s t len 0)).2) := by unfold z_rd; rw [if_neg q1, if_neg q2, if_pos q3]
        rw [e]
        exact ⟨σ3, rfl, fun _ => d3, f3⟩
      · rw [if_neg q3, if_pos rfl, c_here a2 hl (by omega), b_some, if_pos (show z_s t len (z_cla t len (z_s t len 0)).1 < len by omega)]
        by_cases q4 : t (z_s t len (z_cla t len (z_s t len 0)).1) = 59
        · rw [if_pos q4, ls_eq, a2.2.1, nI_1]
          have dq : DC (q_wr σ3 15 2 (nI (z_s t len (z_cla t len (z_s t len 0)).1 + 1))) (z_ap z_no (z_cla t len (z_s t len 0)).2) := DC_f (fun k => by rw [w_at, if_neg (by omega)]) (fun k => by rw [w_at, if_neg (by omega)]) d3
          obtain ⟨σ4, k1, k2, k3, k4⟩ := c_clause hl ht (a := z_s t len (z_cla t len (z_s t len 0)).1 + 1) (by omega) (TC_pl a2) dq
          have f4 : F15d σ σ4 := fun o k h1 h2 h3 => by rw [k4 o k h1 h2 h3, w_at, if_neg h1]; exact f3 o k h1 h2 h3
          rw [k1, b_some]
          by_cases q5 : (z_cla t len (z_s t len (z_cla t len (z_s t len 0)).1 + 1)).2 = none
          · rw [if_pos q5, if_pos rfl, k2.2.1]
            have e : z_rd t len = (-20 - nI (z_cla t len (z_s t len (z_cla t len (z_s t len 0)).1 + 1)).1, z_no) := by unfold z_rd; rw [if_neg q1, if_neg q2, if_neg q3, if_pos q4, if_pos q5]
            rw [e]
            exact ⟨σ4, rfl, fun z => absurd z (z_flt _ (by omega)).2, f4⟩
          · rw [if_neg q5, if_neg (by decide)]
            obtain ⟨σ5, m1, m2, m3⟩ := c_atEnd hl (a := (z_cla t len (z_s t len (z_cla t len (z_s t len 0)).1 + 1)).1) (by omega) k2
            have f5 : F15d σ σ5 := fun o k h1 h2 h3 => (m3 o k h1).trans (f4 o k h1 h2 h3)
            rw [m1, b_some]
            by_cases q6 : len ≤ z_s t len (z_cla t len (z_s t len (z_cla t len (z_s t len 0)).1 + 1)).1
            · rw [if_pos q6, if_neg (by decide)]
              have e : z_rd t len = (2, z_ap (z_ap z_no (z_cla t len (z_s t len 0)).2) (z_cla t len (z_s t len (z_cla t len (z_s t len 0)).1 + 1)).2) := by unfold z_rd; rw [if_neg q1, if_neg q2, if_neg q3, if_pos q4, if_neg q5, if_pos q6]
              rw [e]
              exact ⟨σ5, rfl, fun _ => DC_f (fun k => m3 19 k (by omega)) (fun k => m3 20 k (by omega)) k3, f5⟩
            · rw [if_neg q6, if_pos rfl, m2.2.1]
              have e : z_rd t len = (-20 - nI (z_s t len (z_cla t len (z_s t len (z_cla t len (z_s t len 0)).1 + 1)).1), z_no) := by unfold z_rd; rw [if_neg q1, if_neg q2, if_neg q3, if_pos q4, if_neg q5, if_neg q6]
              rw [e]
              exact ⟨σ5, rfl, fun z => absurd z (z_flt _ (by omega)).2, f5⟩
        · rw [if_neg q4, a2.2.1]
          have e : z_rd t len = (-20 - nI (z_s t len (z_cla t len (z_s t len 0)).1), z_no) := by unfold z_rd; rw [if_neg q1, if_neg q2, if_neg q3, if_neg q4]
          rw [e]
          exact ⟨σ3, rfl, fun z => absurd z (z_flt _ (by omega)).2, f3⟩
theorem c_adopt (σ : Sg) : ∃ σ', f_X0_adoptDraft σ = some (σ', 0) ∧ (∀ k, k < 2 → σ' 17 k = σ 19 k ∧ σ' 18 k = σ 20 k) ∧ ∀ o, o ≠ 17 → o ≠ 18 → σ' o = σ o := by
  have s1 : ∀ (τ : Sg) (rec : Sg → Int32 → Rs) (k : Nat), k < 2 → s_X0_adoptDraft_L2 rec τ (nI k) = rec (q_wr (q_wr τ 17 k (τ 19 k)) 18 k (τ 20 k)) (nI (k + 1)) := by
    intro τ rec k hk
    unfold s_X0_adoptDraft_L2
    rw [if_neg (show ¬ (2 : Int32) ≤ nI k from nI_ge (b := 2) hk (by omega)), r_at (a := 19) (n := 2) τ hk (by decide), b_some, r_set (a := 17) (n := 2) τ _ hk (by decide), b_some, r_at (a := 20) (n := 2) _ hk (by decide), b_some, r_set (a := 18) (n := 2) _ _ hk (by decide), b_some, l_eq, nI_1, w_ne _ _ _ (by decide)]
  refine ⟨q_wr (q_wr (q_wr (q_wr σ 17 0 (σ 19 0)) 18 0 (σ 20 0)) 17 1 (σ 19 1)) 18 1 (σ 20 1), ?_, ?_, ?_⟩
  · show f_X0_adoptDraft_L2 (997 + 3) σ (nI 0) = _
    show s_X0_adoptDraft_L2 (f_X0_adoptDraft_L2 (997 + 2)) σ (nI 0) = _
    rw [s1 σ _ 0 (by decide)]
    show s_X0_adoptDraft_L2 (f_X0_adoptDraft_L2 (997 + 1)) _ (nI 1) = _
    rw [s1 _ _ 1 (by decide)]
    show s_X0_adoptDraft_L2 (f_X0_adoptDraft_L2 997) _ (nI 2) = _
    unfold s_X0_adoptDraft_L2
    rw [if_pos (by decide)]
    rfl
  · intro k hk
    have : k = 0 ∨ k = 1 := by omega
    rcases this with rfl | rfl
    · exact ⟨rfl, rfl⟩
    · exact ⟨rfl, rfl⟩
  · intro o h1 h2
    rw [w_ne _ _ _ h2, w_ne _ _ _ h1, w_ne _ _ _ h2, w_ne _ _ _ h1]
/-- what the laws are behind a reading -/
def z_new (t : Nat → Int32) (len : Nat) (lw : Lw) : Lw := if (z_rd t len).1 < 0 then lw else (z_rd t len).2
theorem c_take {σ : Sg} {t : Nat → Int32} {len : Nat} {lw : Lw} (hl : len ≤ 30) (ht : ∀ i, i < len → 32 ≤ t i ∧ t i ≤ 126) (h : RLc σ t len lw) :
    ∃ σ', f_X5_laws σ = some (σ', (z_rd t len).1) ∧ RLc σ' t 0 (z_new t len lw) ∧ ∀ o, ¬ (15 ≤ o ∧ o ≤ 20) → σ' o = σ o := by
  obtain ⟨h1, h2, h3⟩ := h
  obtain ⟨σ1, f1, f2, f3⟩ := r_fill (a := 20) (n := 2) (by decide) (-4) (q_wr σ 15 2 0)
  have hT : TC σ1 t len 0 := ⟨by rw [f2 15 (by decide), w_at, if_neg (by decide)]; exact h1, by rw [f2 15 (by decide), w_at, if_pos ⟨rfl, rfl⟩]; rfl, fun i hi => by rw [f2 16 (by decide), w_at, if_neg (by omega)]; exact h2 i hi⟩
  have hD : DC σ1 z_no := fun k hk => by
    show σ1 20 k = -4
    rw [f3 k, if_pos hk]
  obtain ⟨σ2, g1, g2, g3⟩ := c_read hl ht hT hD
  have hf : ∀ o, ¬ (15 ≤ o ∧ o ≤ 20) → σ2 o = σ o := by
    intro o ho
    funext k
    rw [g3 o k (by omega) (by omega) (by omega), f2 o (by omega), w_at, if_neg (by omega)]
  have e17 : ∀ k, σ2 17 k = σ 17 k := fun k => by rw [g3 17 k (by omega) (by omega) (by omega), f2 17 (by omega), w_at, if_neg (by omega)]
  have e18 : ∀ k, σ2 18 k = σ 18 k := fun k => by rw [g3 18 k (by omega) (by omega) (by omega), f2 18 (by omega), w_at, if_neg (by omega)]
  have hE : f_X5_laws σ = q_bnd (if (z_rd t len).1 < 0 then some (q_wr σ2 15 1 0, (z_rd t len).1) else q_bnd (f_X0_adoptDraft σ2) fun s8 _ => some (q_wr s8 15 1 0, (z_rd t len).1)) fun s r => some (s, r) := by
    unfold f_X5_laws f_X0_takeTape
    rw [ls_eq, f1, b_some, g1, b_some]
    rfl
  rw [hE]
  by_cases q : (z_rd t len).1 < 0
  · rw [if_pos q, b_some]
    refine ⟨_, rfl, ⟨?_, fun i hi => absurd hi (Nat.not_lt_zero _), ?_⟩, fun o ho => by rw [w_ne _ _ _ (by omega)]; exact hf o ho⟩
    · rw [w_at, if_pos ⟨rfl, rfl⟩]; rfl
    · intro k hk
      have := h3 k hk
      unfold z_new
      rw [if_pos q, w_ne _ _ _ (by decide), w_ne _ _ _ (by decide), e17, e18]
      exact this
  · rw [if_neg q]
    obtain ⟨σ3, a1, a2, a3⟩ := c_adopt σ2
    rw [a1, b_some, b_some]
    have hge : 0 ≤ (z_rd t len).1 := by rw [z_le]; rw [z_lt] at q; omega
    refine ⟨_, rfl, ⟨?_, fun i hi => absurd hi (Nat.not_lt_zero _), ?_⟩, fun o ho => by rw [w_ne _ _ _ (by omega), a3 o (by omega) (by omega)]; exact hf o ho⟩
    · rw [w_at, if_pos ⟨rfl, rfl⟩]; rfl
    · intro k hk
      have := g2 hge k hk
      unfold z_new
      rw [if_neg q, w_ne _ _ _ (by decide), w_ne _ _ _ (by decide), (a2 k hk).1, (a2 k hk).2]
      exact this
