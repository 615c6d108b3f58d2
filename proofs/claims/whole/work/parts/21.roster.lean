/-- what the static tables hold -/
def q_tab (j i : Nat) : Int32 := (match j with
  | 0 => ([0, 2, 4, 6, -4, -4, -4, 0, 2, 1, 3, -4, -4, -4, -4] : List Int32)
  | 1 => ([1, 3, 5, 7, -4, -4, -4, 4, 6, 5, 7, -4, -4, -4, -4] : List Int32)
  | 2 => ([-4, -4, -4, -4, 0, 2, 4, -4, -4, -4, -4, 7, 9, 11, 6] : List Int32)
  | 3 => ([-4, -4, -4, -4, 1, 3, 5, -4, -4, -4, -4, 8, 10, 12, 13] : List Int32)
  | _ => ([4, 4, 5, 5, 6, 6, 14, 11, 11, 12, 12, 13, 13, 14, -4] : List Int32)).getD i 0
/-- the state at the law's entry: the tables, the script -/
def q_s0 (xs : Nat → Int32) : Sg := fun o i => if o = 105 then xs i else if 100 ≤ o ∧ o < 105 then q_tab (o - 100) i else 0
/-! THE RELATION between the class's cells and the reference's: tables, roster, meeting, laws, game -/
def RT (σ : Sg) : Prop := ∀ j, j < 5 → ∀ i, i < 15 → σ (100 + j) i = q_tab j i
def RR (σ : Sg) : Prop := ∀ i, i < 8 → σ 27 i = σ 22 i ∧ 0 ≤ (σ 22 i).toInt ∧ (σ 22 i).toInt ≤ 2000
theorem RR_c {σ τ : Sg} (h1 : τ 22 = σ 22) (h2 : τ 27 = σ 27) (h : RR σ) : RR τ := by
  unfold RR
  rw [h1, h2]
  exact h
theorem z_le0 (a : Int32) : (0 : Int32) ≤ a ↔ 0 ≤ a.toInt := by rw [z_le]; rfl
theorem z_player {p : Int32} (h : 0 ≤ p ∧ p ≤ 7) : ∃ k, k < 8 ∧ p = nI k := by
  rcases z_idx p (n := 8) (by decide) with h1 | h1 | h1
  · rw [z_lt] at h1; rw [z_le, z_le] at h; have e : (0 : Int32).toInt = 0 := rfl; omega
  · rw [z_le, z_nI (by decide)] at h1; rw [z_le, z_le] at h; have e : (7 : Int32).toInt = 7 := rfl; omega
  · exact h1
/-! index, handicap -/
theorem p_index (σ : Sg) (p v : Int32) (hR : RR σ) : ∃ σ1 σ2 r, f_X5_index σ p v = some (σ1, r) ∧ (∀ o, o ≠ 22 → σ1 o = σ o) ∧ f_X6_index σ1 p v = some (σ2, r) ∧ (∀ o, o ≠ 27 → σ2 o = σ1 o) ∧ RR σ2 := by
  by_cases hp : 0 ≤ p ∧ p ≤ 7
  · by_cases hv : 0 ≤ v ∧ v ≤ 2000
    · obtain ⟨k, hk, rfl⟩ := z_player hp
      refine ⟨q_wr σ 22 k v, q_wr (q_wr σ 22 k v) 27 k v, σ 22 k, ?_, fun o ho => w_ne _ _ _ ho, ?_, fun o ho => w_ne _ _ _ ho, ?_⟩
      · simp only [f_X5_index, r_isPlayer, r_within, b_some, if_pos hp, if_pos hv, f_X4_put, r_at (a := 22) (n := 8) σ hk (by decide), r_set (a := 22) (n := 8) σ v hk (by decide)]
        rfl
      · simp only [f_X6_index, r_isPlayerM, r_in, b_some, if_pos hp, if_pos hv, if_neg (o_in hk (by decide)), z_cl (show k < 2147483648 by omega), l_eq, ls_eq, w_at]
        rw [if_neg (by decide), if_neg (by decide), if_neg (by omega), (hR k hk).1]
      · intro i hi
        obtain ⟨h1, h2, h3⟩ := hR i hi
        rw [z_le, z_le] at hv
        have e : (0 : Int32).toInt = 0 := rfl
        have e2 : (2000 : Int32).toInt = 2000 := rfl
        by_cases h : i = k
        · subst h
          simp only [w_at]
          simp
          omega
        · simp only [w_at]
          simp [h]
          exact ⟨h1, h2, h3⟩
    · refine ⟨σ, σ, -1, ?_, fun _ _ => rfl, ?_, fun _ _ => rfl, hR⟩
      · simp only [f_X5_index, r_isPlayer, r_within, b_some, if_pos hp, if_neg hv]
        rfl
      · simp only [f_X6_index, r_isPlayerM, r_in, b_some, if_pos hp, if_neg hv]
        rfl
  · refine ⟨σ, σ, -1, ?_, fun _ _ => rfl, ?_, fun _ _ => rfl, hR⟩
    · simp only [f_X5_index, r_isPlayer, b_some, if_neg hp]
      rfl
    · simp only [f_X6_index, r_isPlayerM, b_some, if_neg hp]
      rfl
theorem p_handicap (σ : Sg) (p : Int32) (hR : RR σ) : ∃ r, f_X5_handicap σ p = some (σ, r) ∧ f_X6_handicap σ p = some (σ, r) := by
  by_cases hp : 0 ≤ p ∧ p ≤ 7
  · obtain ⟨k, hk, rfl⟩ := z_player hp
    refine ⟨20 - σ 22 k / 100, ?_, ?_⟩
    · simp only [f_X5_handicap, r_isPlayer, b_some, if_pos hp, f_X4_handicapOf, r_at (a := 22) (n := 8) σ hk (by decide)]
      rfl
    · simp only [f_X6_handicap, r_isPlayerM, b_some, if_pos hp, f_X6_handicapOf, if_neg (o_in hk (by decide)), z_cl (show k < 2147483648 by omega), (hR k hk).1]
      rfl
  · refine ⟨-101, ?_, ?_⟩
    · simp only [f_X5_handicap, r_isPlayer, b_some, if_neg hp]
      rfl
    · simp only [f_X6_handicap, r_isPlayerM, b_some, if_neg hp]
      rfl
/-! what a game's free turns are -/
def m_hc (v : Int32) : Int32 := 20 - v / 100
theorem m_hcr {v : Int32} (h : 0 ≤ v.toInt ∧ v.toInt ≤ 2000) : 0 ≤ (m_hc v).toInt ∧ (m_hc v).toInt ≤ 20 := by
  have e : (100 : Int32).toInt = 100 := rfl
  have e2 : (20 : Int32).toInt = 20 := rfl
  have h1 : (v / 100).toInt = v.toInt / 100 := by
    rw [z_div (by rw [e, Int.tdiv_eq_ediv_of_nonneg h.1]; omega), e, Int.tdiv_eq_ediv_of_nonneg h.1]
  unfold m_hc
  rw [z_sub (by rw [e2, h1]; omega), e2, h1]
  omega
/-- half the difference, cut up, with its sign -/
def m_half (d : Int32) : Int32 := if 0 ≤ d then (d + 1) / 2 else -((0 - d + 1) / 2)
theorem m_half_eq : ∀ k : Nat, k < 41 → (let d : Int32 := nI k - 20; (if 0 ≤ d then (if 0 ≤ d then d else 0 - d) + 1 else 0 - d + 1) / 2 = (if 0 ≤ d then (d + 1) / 2 else (1 - d) / 2) ∧ (0 ≤ d → 0 ≤ (d + 1) / 2) ∧ (¬ 0 ≤ d → 0 ≤ (1 - d) / 2 ∧ ¬ 0 ≤ -((1 - d) / 2)) ∧ -(-((1 - d) / 2)) = (1 - d) / 2) := by decide +kernel
