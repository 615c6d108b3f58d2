/-! the players' marks, and what a game's free turns are -/
theorem z_le0 (a : Int32) : (0 : Int32) ≤ a ↔ 0 ≤ a.toInt := by rw [z_le]; rfl
theorem z_player {p : Int32} (h : 0 ≤ p ∧ p ≤ 7) : ∃ k, k < 8 ∧ p = nI k := by
  rcases z_idx p (n := 8) (by decide) with h1 | h1 | h1
  · rw [z_lt] at h1; rw [z_le, z_le] at h; have e : (0 : Int32).toInt = 0 := rfl; omega
  · rw [z_le, z_nI (by decide)] at h1; rw [z_le, z_le] at h; have e : (7 : Int32).toInt = 7 := rfl; omega
  · exact h1
def m_hc (v : Int32) : Int32 := 20 - v / 100
theorem m_hcr {v : Int32} (h : 0 ≤ v.toInt ∧ v.toInt ≤ 2000) : 0 ≤ (m_hc v).toInt ∧ (m_hc v).toInt ≤ 20 := by
  have e : (100 : Int32).toInt = 100 := rfl
  have e2 : (20 : Int32).toInt = 20 := rfl
  have h1 : (v / 100).toInt = v.toInt / 100 := by
    rw [z_div (by rw [e, Int.tdiv_eq_ediv_of_nonneg h.1]; omega), e, Int.tdiv_eq_ediv_of_nonneg h.1]
  unfold m_hc
  rw [z_sub (by rw [e2, h1]; omega), e2, h1]
  omega
def m_r (d : Int32) : Int32 := if 0 ≤ d then ((if 0 ≤ d then d else 0 - d) + 1) / 2 else -(((if 0 ≤ d then d else 0 - d) + 1) / 2)
def m_f0 (d : Int32) : Int32 := if 0 ≤ d then 0 else (1 - d) / 2
def m_f1 (d : Int32) : Int32 := if d ≤ 0 then 0 else (d + 1) / 2
theorem m_rf : ∀ i : Nat, i < 21 → ∀ j : Nat, j < 21 → ((if 0 < -(m_r (nI i - nI j)) then -(m_r (nI i - nI j)) else 0) = m_f0 (nI i - nI j) ∧ (if 0 < m_r (nI i - nI j) then m_r (nI i - nI j) else 0) = m_f1 (nI i - nI j) ∧ m_f1 (nI i - nI j) - m_f0 (nI i - nI j) = m_r (nI i - nI j)) := by decide +kernel
theorem m_hcn {v : Int32} (h : 0 ≤ v.toInt ∧ v.toInt ≤ 2000) : ∃ k, k < 21 ∧ m_hc v = nI k := by
  obtain ⟨h1, h2⟩ := m_hcr h
  obtain ⟨k, hk, e⟩ := nI_of2 (x := m_hc v) (M := 20) (n := 20) (by decide) (by rw [z_lt, show (0 : Int32).toInt = 0 from rfl]; omega) (by rw [z_le, show (20 : Int32).toInt = 20 from rfl]; exact h2)
  exact ⟨k, by omega, e⟩
theorem c_turns {σ : Sg} {a b i j : Nat} (ha : a < 8) (hb : b < 8) (ei : m_hc (σ 22 b) = nI i) (ej : m_hc (σ 22 a) = nI j) : f_X4_freeTurnsOfOther σ (nI a) (nI b) = some (σ, m_r (nI i - nI j)) := by
  unfold f_X4_freeTurnsOfOther f_X4_handicapOf
  rw [r_at (a := 22) (n := 8) σ hb (by decide), b_some, b_some, r_at (a := 22) (n := 8) σ ha (by decide), b_some, b_some, show (20 : Int32) - σ 22 b / 100 = nI i from ei, show (20 : Int32) - σ 22 a / 100 = nI j from ej, l_eq, l_eq, l_eq]
  unfold m_r
  by_cases h : 0 ≤ nI i - nI j
  · simp only [if_pos h]
  · simp only [if_neg h]
