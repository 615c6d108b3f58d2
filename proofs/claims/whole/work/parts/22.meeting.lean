/-! the meeting: who plays -/
def m_fr (j m : Nat) : Option Nat := (if j = 0 then ([none, none, none, none, some 0, some 2, some 4, none, none, none, none, some 7, some 9, some 11, some 6] : List (Option Nat)) else [none, none, none, none, some 1, some 3, some 5, none, none, none, none, some 8, some 10, some 12, some 13]).getD m none
def m_st (j m : Nat) : Nat := (if j = 0 then ([0, 2, 4, 6, 0, 0, 0, 0, 2, 1, 3, 0, 0, 0, 0] : List Nat) else [1, 3, 5, 7, 0, 0, 0, 4, 6, 5, 7, 0, 0, 0, 0]).getD m 0
def e_c (x : Option Nat) : Int32 := match x with
  | none => -4
  | some k => nI k
def e_m (x : Option Nat) : Int32 := match x with
  | none => -1
  | some k => nI k
def m_pl (w : Nat → Option Nat) (j m : Nat) : Option Nat := match m_fr j m with
  | none => some (m_st j m)
  | some s => if m = 14 ∧ (w 6 = none ∨ w 13 = none ∨ w 6 = w 13) then none else w s
theorem m_tabs : ∀ m, m < 15 → q_tab 2 m = e_c (m_fr 0 m) ∧ q_tab 3 m = e_c (m_fr 1 m) ∧ (m_fr 0 m = none → q_tab 0 m = nI (m_st 0 m)) ∧ (m_fr 1 m = none → q_tab 1 m = nI (m_st 1 m)) ∧ (∀ s, m_fr 0 m = some s → s < m) ∧ (∀ s, m_fr 1 m = some s → s < m) ∧ (m_fr 0 m = none ↔ m_fr 1 m = none) ∧ m_st 0 m < 8 ∧ m_st 1 m < 8 := by
  intro m hm
  have : m = 0 ∨ m = 1 ∨ m = 2 ∨ m = 3 ∨ m = 4 ∨ m = 5 ∨ m = 6 ∨ m = 7 ∨ m = 8 ∨ m = 9 ∨ m = 10 ∨ m = 11 ∨ m = 12 ∨ m = 13 ∨ m = 14 := by omega
  rcases this with rfl | rfl | rfl | rfl | rfl | rfl | rfl | rfl | rfl | rfl | rfl | rfl | rfl | rfl | rfl <;> refine ⟨by decide, by decide, by decide, by decide, ?_, ?_, by decide, by decide, by decide⟩ <;> intro s hs <;> simp [m_fr] at hs <;> omega
theorem e_c4 {x : Option Nat} (h : ∀ k, x = some k → k < 64) : e_c x = -4 ↔ x = none := by
  cases x with
  | none => simp [e_c]
  | some k =>
    have hk := h k rfl
    simp only [e_c, reduceCtorEq, iff_false]
    have : ∀ k, k < 64 → ¬ nI k = -4 := by decide
    exact this k hk
theorem e_m0 {x : Option Nat} (h : ∀ k, x = some k → k < 64) : e_m x < 0 ↔ x = none := by
  cases x with
  | none => simp only [e_m]; decide
  | some k =>
    have hk := h k rfl
    simp only [e_m, reduceCtorEq, iff_false]
    exact nI_pos (by omega)
theorem e_ci {x y : Option Nat} (hx : ∀ k, x = some k → k < 64) (hy : ∀ k, y = some k → k < 64) : e_c x = e_c y ↔ x = y := by
  refine ⟨fun h => ?_, fun h => by rw [h]⟩
  cases x with
  | none => exact ((e_c4 hy).mp h.symm).symm
  | some k =>
    cases y with
    | none => exact (e_c4 hx).mp h
    | some j =>
      have := hx k rfl
      have := hy j rfl
      simp only [e_c] at h
      rw [nI_eq (by omega) (by omega)] at h
      rw [h]
theorem e_mi {x y : Option Nat} (hx : ∀ k, x = some k → k < 64) (hy : ∀ k, y = some k → k < 64) : e_m x = e_m y ↔ x = y := by
  refine ⟨fun h => ?_, fun h => by rw [h]⟩
  cases x with
  | none => exact ((e_m0 hy).mp (by rw [← h]; decide)).symm
  | some k =>
    cases y with
    | none => exact (e_m0 hx).mp (by rw [h]; decide)
    | some j =>
      have := hx k rfl
      have := hy j rfl
      simp only [e_m] at h
      rw [nI_eq (by omega) (by omega)] at h
      rw [h]
/-- the winners: what both sides hold -/
def RWc (σ : Sg) (w : Nat → Option Nat) : Prop := ∀ m, m < 15 → σ 24 m = e_c (w m)
def RWm (σ : Sg) (w : Nat → Option Nat) : Prop := ∀ m, m < 15 → σ 44 m = e_m (w m)
def RWb (w : Nat → Option Nat) : Prop := ∀ m k, w m = some k → k < 8
/-- a match was played only where both players are told -/
def RMc (w : Nat → Option Nat) : Prop := ∀ m, m < 15 → w m ≠ none → m_pl w 0 m ≠ none ∧ m_pl w 1 m ≠ none
theorem m_pl8 {w : Nat → Option Nat} (h : ∀ m k, w m = some k → k < 8) {j m k : Nat} (hm : m < 15) (hj : j < 2) (e : m_pl w j m = some k) : k < 8 := by
  unfold m_pl at e
  obtain ⟨-, -, -, -, -, -, -, h8, h9⟩ := m_tabs m hm
  cases hf : m_fr j m with
  | none =>
    rw [hf] at e
    have : j = 0 ∨ j = 1 := by omega
    rcases this with rfl | rfl
    · cases e; exact h8
    · cases e; exact h9
  | some s =>
    rw [hf] at e
    dsimp only at e
    by_cases hc : m = 14 ∧ (w 6 = none ∨ w 13 = none ∨ w 6 = w 13)
    · rw [if_pos hc] at e; cases e
    · rw [if_neg hc] at e; exact h _ _ e
theorem b64 {x : Option Nat} (h : ∀ k, x = some k → k < 8) : ∀ k, x = some k → k < 64 := fun k hk => by have := h k hk; omega
theorem c_two {σ : Sg} {w : Nat → Option Nat} (h : RWc σ w) (hb : RWb w) : f_X1_hasTwoWinners σ = some (σ, if w 6 = none ∨ w 13 = none ∨ w 6 = w 13 then 0 else 1) := by
  have h6 := (h 6 (by decide))
  have h13 := (h 13 (by decide))
  have r6 := r_at (a := 24) (n := 15) (k := 6) σ (by decide) (by decide)
  have r13 := r_at (a := 24) (n := 15) (k := 13) σ (by decide) (by decide)
  have e6 : (6 : Int32) = nI 6 := rfl
  have e13 : (13 : Int32) = nI 13 := rfl
  simp only [f_X1_hasTwoWinners, e6, e13, r6, r13, b_some, h6, h13, e_c4 (b64 (hb 6)), e_c4 (b64 (hb 13)), e_ci (b64 (hb 6)) (b64 (hb 13))]
  by_cases a : w 6 = none
  · simp [a]
  · by_cases b : w 13 = none
    · simp [a, b]
    · by_cases c : w 6 = w 13
      · simp [a, b, c]
      · simp [a, b, c]
theorem c_whoJ {σ : Sg} {w : Nat → Option Nat} (hT : RT σ) (h : RWc σ w) (hb : RWb w) {m : Nat} (hm : m < 15) {j : Nat} (hj : j < 2) (hc : ¬ (m = 14 ∧ (w 6 = none ∨ w 13 = none ∨ w 6 = w 13))) : f_X1_who_J30 σ (nI m) (nI j) = some (σ, e_c (m_pl w j m)) := by
  obtain ⟨t1, t2, t3, t4, t5, t6, t7, t8, t9⟩ := m_tabs m hm
  have a2 := r_at (a := 102) (n := 15) σ hm (by decide)
  have a3 := r_at (a := 103) (n := 15) σ hm (by decide)
  have a0 := r_at (a := 100) (n := 15) σ hm (by decide)
  have a1 := r_at (a := 101) (n := 15) σ hm (by decide)
  have v2 : σ 102 m = e_c (m_fr 0 m) := (hT 2 (by decide) m hm).trans t1
  have v3 : σ 103 m = e_c (m_fr 1 m) := (hT 3 (by decide) m hm).trans t2
  have v0 : σ 100 m = q_tab 0 m := hT 0 (by decide) m hm
  have v1 : σ 101 m = q_tab 1 m := hT 1 (by decide) m hm
  have : j = 0 ∨ j = 1 := by omega
  rcases this with rfl | rfl
  · have e : nI 0 = (0 : Int32) := rfl
    simp only [f_X1_who_J30, e, if_true, f_X1_who_J43, a2, b_some, v2]
    cases hf : m_fr 0 m with
    | none =>
      rw [if_pos (show e_c none = -4 from rfl), a0, b_some, v0, t3 hf]
      simp only [m_pl, hf]
      rfl
    | some s =>
      have hs := t5 s hf
      have hs2 : s < 15 := by omega
      rw [if_neg (show ¬ e_c (some s) = -4 from (by decide : ∀ k, k < 15 → ¬ nI k = -4) s hs2)]
      rw [show e_c (some s) = nI s from rfl, r_at (a := 24) (n := 15) σ hs2 (by decide), b_some, (h s hs2)]
      simp only [m_pl, hf, if_neg hc]
  · have e : ¬ nI 1 = (0 : Int32) := by decide
    simp only [f_X1_who_J30, if_neg e, f_X1_who_J43_1, a3, b_some, v3]
    cases hf : m_fr 1 m with
    | none =>
      rw [if_pos (show e_c none = -4 from rfl), a1, b_some, v1, t4 hf]
      simp only [m_pl, hf]
      rfl
    | some s =>
      have hs := t6 s hf
      have hs2 : s < 15 := by omega
      rw [if_neg (show ¬ e_c (some s) = -4 from (by decide : ∀ k, k < 15 → ¬ nI k = -4) s hs2)]
      rw [show e_c (some s) = nI s from rfl, r_at (a := 24) (n := 15) σ hs2 (by decide), b_some, (h s hs2)]
      simp only [m_pl, hf, if_neg hc]
theorem m_fr14 (j : Nat) : ∃ s, m_fr j 14 = some s := by
  by_cases h : j = 0
  · exact ⟨6, by simp [m_fr, h]⟩
  · exact ⟨13, by simp [m_fr, h]⟩
theorem c_who {σ : Sg} {w : Nat → Option Nat} (hT : RT σ) (h : RWc σ w) (hb : RWb w) {m : Nat} (hm : m < 15) {j : Nat} (hj : j < 2) : f_X1_who σ (nI m) (nI j) = some (σ, e_c (m_pl w j m)) := by
  have e2 : ¬ nI j = (2 : Int32) := (by decide : ∀ j, j < 2 → ¬ nI j = (2 : Int32)) j hj
  unfold f_X1_who
  rw [if_neg e2]
  by_cases h14 : m = 14
  · subst h14
    rw [if_pos (by rfl), c_two h hb, b_some]
    by_cases hc : w 6 = none ∨ w 13 = none ∨ w 6 = w 13
    · rw [if_pos hc, if_pos rfl]
      obtain ⟨s, hs⟩ := m_fr14 j
      simp only [m_pl, hs, true_and, if_pos hc]
      rfl
    · rw [if_neg hc, if_neg (by decide)]
      exact c_whoJ hT h hb hm hj (fun q => hc q.2)
  · rw [if_neg (by rw [show (14 : Int32) = nI 14 from rfl, nI_eq (by omega) (by omega)]; exact h14)]
    exact c_whoJ hT h hb hm hj (fun q => h14 q.1)
theorem c_who2 {σ : Sg} {w : Nat → Option Nat} (h : RWc σ w) (hb : RWb w) {m : Nat} (hm : m < 15) : f_X1_who σ (nI m) 2 = some (σ, e_c (w m)) := by
  unfold f_X1_who
  rw [if_pos rfl, r_at (a := 24) (n := 15) σ hm (by decide), b_some, (h m hm)]
theorem m_who {σ : Sg} {w : Nat → Option Nat} (h : RWm σ w) (hb : RWb w) {m : Nat} (hm : m < 15) {j : Nat} (hj : j < 2) : f_X6_playerOf σ (nI m) (nI j) = some (σ, e_m (m_pl w j m)) := by
  have hj2 : j = 0 ∨ j = 1 := by omega
  by_cases h14 : m = 14
  · subst h14
    have key : f_X6_playerOf σ (nI 14) (nI j) = if σ 44 6 < 0 then some (σ, -1) else if σ 44 13 < 0 then some (σ, -1) else if σ 44 6 = σ 44 13 then some (σ, -1) else some (σ, σ 44 (if j = 0 then 6 else 13)) := by
      rcases hj2 with rfl | rfl <;> rfl
    rw [key, (h 6 (by decide)), (h 13 (by decide))]
    simp only [e_m0 (b64 (hb 6)), e_m0 (b64 (hb 13)), e_mi (b64 (hb 6)) (b64 (hb 13))]
    have hp : m_pl w j 14 = if w 6 = none ∨ w 13 = none ∨ w 6 = w 13 then none else w (if j = 0 then 6 else 13) := by
      rcases hj2 with rfl | rfl <;> simp [m_pl, m_fr]
    rw [hp]
    by_cases a : w 6 = none
    · simp [a, e_m]
    · by_cases b : w 13 = none
      · simp [a, b, e_m]
      · by_cases c : w 6 = w 13
        · simp [a, b, c, e_m]
        · rcases hj2 with rfl | rfl
          · simp [a, b, c, (h 6 (by decide))]
          · simp [a, b, c, (h 13 (by decide))]
  · have hp : m_pl w j m = match m_fr j m with
      | none => some (m_st j m)
      | some s => w s := by
      unfold m_pl
      cases m_fr j m with
      | none => rfl
      | some s => dsimp only; rw [if_neg (fun q => h14 q.1)]
    have : m = 0 ∨ m = 1 ∨ m = 2 ∨ m = 3 ∨ m = 4 ∨ m = 5 ∨ m = 6 ∨ m = 7 ∨ m = 8 ∨ m = 9 ∨ m = 10 ∨ m = 11 ∨ m = 12 ∨ m = 13 := by omega
    rw [hp]
    rcases hj2 with rfl | rfl
    · rcases this with rfl | rfl | rfl | rfl | rfl | rfl | rfl | rfl | rfl | rfl | rfl | rfl | rfl | rfl
      · rfl
      · rfl
      · rfl
      · rfl
      · exact (show f_X6_playerOf σ (nI 4) (nI 0) = some (σ, σ 44 0) from rfl).trans (by rw [(h 0 (by decide))]; rfl)
      · exact (show f_X6_playerOf σ (nI 5) (nI 0) = some (σ, σ 44 2) from rfl).trans (by rw [(h 2 (by decide))]; rfl)
      · exact (show f_X6_playerOf σ (nI 6) (nI 0) = some (σ, σ 44 4) from rfl).trans (by rw [(h 4 (by decide))]; rfl)
      · rfl
      · rfl
      · rfl
      · rfl
      · exact (show f_X6_playerOf σ (nI 11) (nI 0) = some (σ, σ 44 7) from rfl).trans (by rw [(h 7 (by decide))]; rfl)
      · exact (show f_X6_playerOf σ (nI 12) (nI 0) = some (σ, σ 44 9) from rfl).trans (by rw [(h 9 (by decide))]; rfl)
      · exact (show f_X6_playerOf σ (nI 13) (nI 0) = some (σ, σ 44 11) from rfl).trans (by rw [(h 11 (by decide))]; rfl)
    · rcases this with rfl | rfl | rfl | rfl | rfl | rfl | rfl | rfl | rfl | rfl | rfl | rfl | rfl | rfl
      · rfl
      · rfl
      · rfl
      · rfl
      · exact (show f_X6_playerOf σ (nI 4) (nI 1) = some (σ, σ 44 1) from rfl).trans (by rw [(h 1 (by decide))]; rfl)
      · exact (show f_X6_playerOf σ (nI 5) (nI 1) = some (σ, σ 44 3) from rfl).trans (by rw [(h 3 (by decide))]; rfl)
      · exact (show f_X6_playerOf σ (nI 6) (nI 1) = some (σ, σ 44 5) from rfl).trans (by rw [(h 5 (by decide))]; rfl)
      · rfl
      · rfl
      · rfl
      · rfl
      · exact (show f_X6_playerOf σ (nI 11) (nI 1) = some (σ, σ 44 8) from rfl).trans (by rw [(h 8 (by decide))]; rfl)
      · exact (show f_X6_playerOf σ (nI 12) (nI 1) = some (σ, σ 44 10) from rfl).trans (by rw [(h 10 (by decide))]; rfl)
      · exact (show f_X6_playerOf σ (nI 13) (nI 1) = some (σ, σ 44 12) from rfl).trans (by rw [(h 12 (by decide))]; rfl)
