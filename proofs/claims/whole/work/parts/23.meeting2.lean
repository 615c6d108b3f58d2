/-! match, win, champion -/
theorem z_match {m : Int32} (h : 0 ≤ m ∧ m ≤ 14) : ∃ k, k < 15 ∧ m = nI k := by
  rcases z_idx m (n := 15) (by decide) with h1 | h1 | h1
  · rw [z_lt] at h1; rw [z_le, z_le] at h; have e : (0 : Int32).toInt = 0 := rfl; omega
  · rw [z_le, z_nI (by decide)] at h1; rw [z_le, z_le] at h; have e : (14 : Int32).toInt = 14 := rfl; omega
  · exact h1
theorem z_what {m : Int32} (h : 0 ≤ m ∧ m ≤ 2) : ∃ k, k < 3 ∧ m = nI k := by
  rcases z_idx m (n := 3) (by decide) with h1 | h1 | h1
  · rw [z_lt] at h1; rw [z_le, z_le] at h; have e : (0 : Int32).toInt = 0 := rfl; omega
  · rw [z_le, z_nI (by decide)] at h1; rw [z_le, z_le] at h; have e : (2 : Int32).toInt = 2 := rfl; omega
  · exact h1
theorem z_ge0 {n : Nat} (h : n < 2147483648) : (0 : Int32) ≤ nI n := nI_pos' (by omega)
theorem e_cm (x : Option Nat) (h : ∀ k, x = some k → k < 64) : (if 0 ≤ e_m x then e_m x else -4) = e_c x := by
  cases x with
  | none => rfl
  | some k =>
    have := h k rfl
    rw [show e_m (some k) = nI k from rfl, if_pos (z_ge0 (by omega))]
    rfl
theorem r_J38 (σ : Sg) (y : Int32) : f_X6_match_J38 σ y = some (σ, if 0 ≤ y then y else -4) := by
  unfold f_X6_match_J38
  by_cases h : 0 ≤ y
  · rw [if_pos h, if_pos h]
  · rw [if_neg h, if_neg h]
theorem c_match {σ : Sg} {w : Nat → Option Nat} (hT : RT σ) (h : RWc σ w) (hb : RWb w) (m j : Int32) : f_X5_match σ m j = some (σ, if 0 ≤ m ∧ m ≤ 14 then (if 0 ≤ j ∧ j ≤ 2 then (if j = 2 then e_c (w m.toNatClampNeg) else e_c (m_pl w j.toNatClampNeg m.toNatClampNeg)) else -1) else -1) := by
  by_cases hm : 0 ≤ m ∧ m ≤ 14
  · by_cases hj : 0 ≤ j ∧ j ≤ 2
    · obtain ⟨k, hk, rfl⟩ := z_match hm
      obtain ⟨i, hi, rfl⟩ := z_what hj
      rw [if_pos hm, if_pos hj, z_cl (show k < 2147483648 by omega), z_cl (show i < 2147483648 by omega)]
      by_cases h2 : i = 2
      · subst h2
        have hj2 : (0 : Int32) ≤ 2 ∧ (2 : Int32) ≤ 2 := by decide
        simp only [f_X5_match, r_isMatch, r_within, b_some, if_pos hm, show nI 2 = (2 : Int32) from rfl, c_who2 h hb hk, if_pos hj2]
        rfl
      · have hi2 : i < 2 := by omega
        have hi3 : ¬ nI i = (2 : Int32) := by rw [show (2 : Int32) = nI 2 from rfl, nI_eq (by omega) (by omega)]; exact h2
        simp only [f_X5_match, r_isMatch, r_within, b_some, if_pos hm, if_pos hj, c_who hT h hb hk hi2, if_neg hi3]
        rfl
    · simp only [f_X5_match, r_isMatch, r_within, b_some, if_pos hm, if_neg hj]
      rfl
  · simp only [f_X5_match, r_isMatch, b_some, if_neg hm]
    rfl
theorem m_match {σ : Sg} {w : Nat → Option Nat} (h : RWm σ w) (hb : RWb w) (m j : Int32) : f_X6_match σ m j = some (σ, if 0 ≤ m ∧ m ≤ 14 then (if 0 ≤ j ∧ j ≤ 2 then (if j = 2 then e_c (w m.toNatClampNeg) else e_c (m_pl w j.toNatClampNeg m.toNatClampNeg)) else -1) else -1) := by
  by_cases hm : 0 ≤ m ∧ m ≤ 14
  · by_cases hj : 0 ≤ j ∧ j ≤ 2
    · obtain ⟨k, hk, rfl⟩ := z_match hm
      obtain ⟨i, hi, rfl⟩ := z_what hj
      rw [if_pos hm, if_pos hj, z_cl (show k < 2147483648 by omega), z_cl (show i < 2147483648 by omega)]
      by_cases h2 : i = 2
      · subst h2
        simp only [f_X6_match, r_isMatchM, r_in, b_some, if_pos hm, if_pos hj, if_neg (o_in hk (by decide)), r_J38, z_cl (show k < 2147483648 by omega), h k hk, e_cm (w k) (b64 (hb k))]
        rfl
      · have hi2 : i < 2 := by omega
        have hi3 : ¬ nI i = (2 : Int32) := by rw [show (2 : Int32) = nI 2 from rfl, nI_eq (by omega) (by omega)]; exact h2
        have hq : ∀ q, m_pl w i k = some q → q < 64 := fun q hq => by have := m_pl8 hb hk hi2 hq; omega
        simp only [f_X6_match, r_isMatchM, r_in, b_some, if_pos hm, if_pos hj, if_neg hi3, m_who h hb hk hi2, r_J38, e_cm _ hq]
        rfl
    · simp only [f_X6_match, r_isMatchM, r_in, b_some, if_pos hm, if_neg hj]
      rfl
  · simp only [f_X6_match, r_isMatchM, b_some, if_neg hm]
    rfl
/-! a match is won -/
def m_up (w : Nat → Option Nat) (m p : Nat) : Nat → Option Nat := fun i => if i = m then some p else w i
theorem m_up_eq (w : Nat → Option Nat) (m p : Nat) : m_up w m p m = some p := by simp [m_up]
theorem m_up_ne (w : Nat → Option Nat) {m i : Nat} (p : Nat) (h : i ≠ m) : m_up w m p i = w i := by simp [m_up, h]
theorem m_frlt {j m s : Nat} (hm : m < 15) (h : m_fr j m = some s) : s < m := by
  obtain ⟨-, -, -, -, t5, t6, -⟩ := m_tabs m hm
  by_cases hj : j = 0
  · subst hj; exact t5 s h
  · refine t6 s ?_
    rw [← h]
    simp [m_fr, hj]
theorem m_pl_told {w : Nat → Option Nat} {j m : Nat} : m_pl w j m ≠ none ↔ ∀ s, m_fr j m = some s → w s ≠ none ∧ (m = 14 → w 6 ≠ none ∧ w 13 ≠ none ∧ w 6 ≠ w 13) := by
  unfold m_pl
  cases hf : m_fr j m with
  | none => simp
  | some s =>
    dsimp only
    by_cases hc : m = 14 ∧ (w 6 = none ∨ w 13 = none ∨ w 6 = w 13)
    · rw [if_pos hc]
      constructor
      · intro h; exact absurd rfl h
      · intro h
        obtain ⟨-, h2⟩ := h s rfl
        obtain ⟨q1, q2, q3⟩ := h2 hc.1
        rcases hc.2 with z | z | z
        · exact absurd z q1
        · exact absurd z q2
        · exact absurd z q3
    · rw [if_neg hc]
      constructor
      · intro h s' hs'
        cases hs'
        refine ⟨h, fun h14 => ⟨fun z => hc ⟨h14, Or.inl z⟩, fun z => hc ⟨h14, Or.inr (Or.inl z)⟩, fun z => hc ⟨h14, Or.inr (Or.inr z)⟩⟩⟩
      · intro h; exact (h s rfl).1
theorem m_up_c {w : Nat → Option Nat} {m p : Nat} (hm : m < 15) (hc : RMc w) (h0 : m_pl w 0 m ≠ none) (h1 : m_pl w 1 m ≠ none) (hw : w m = none) : RMc (m_up w m p) := by
  have key : ∀ j i, i < 15 → m_pl w j i ≠ none → m_pl (m_up w m p) j i ≠ none := by
    intro j i hi h
    rw [m_pl_told] at h ⊢
    intro s hs
    obtain ⟨a, b⟩ := h s hs
    refine ⟨?_, fun h14 => ?_⟩
    · by_cases hsm : s = m
      · rw [hsm, m_up_eq]; exact fun z => by cases z
      · rw [m_up_ne w p hsm]; exact a
    · obtain ⟨q1, q2, q3⟩ := b h14
      have n6 : (6 : Nat) ≠ m := fun z => q1 (by rw [z]; exact hw)
      have n13 : (13 : Nat) ≠ m := fun z => q2 (by rw [z]; exact hw)
      rw [m_up_ne w p n6, m_up_ne w p n13]
      exact ⟨q1, q2, q3⟩
  intro i hi hq
  by_cases him : i = m
  · subst him
    exact ⟨key 0 i hi h0, key 1 i hi h1⟩
  · rw [m_up_ne w p him] at hq
    obtain ⟨a, b⟩ := hc i hi hq
    exact ⟨key 0 i hi a, key 1 i hi b⟩
theorem r_J55 (σ : Sg) {m : Nat} (hm : m < 15) (p : Int32) : f_X1_give_J55 σ (nI m) p = some (q_wr σ 24 m p, 1) := by
  simp only [f_X1_give_J55, r_set (a := 24) (n := 15) σ p hm (by decide), b_some]
theorem r_J63 (σ : Sg) {m : Nat} (hm : m < 15) (p : Int32) : f_X6_win_J63 σ (nI m) p = some (q_wr σ 44 m p, 1) := by
  simp only [f_X6_win_J63, if_neg (o_in hm (by decide)), z_cl (show m < 2147483648 by omega), ls_eq]
/-- whether a match may be won by a player -/
def m_may (w : Nat → Option Nat) (k i : Nat) : Prop := m_pl w 0 k ≠ none ∧ m_pl w 1 k ≠ none ∧ w k = none ∧ (some i = m_pl w 0 k ∨ some i = m_pl w 1 k)
theorem c_win {σ : Sg} {w : Nat → Option Nat} (hT : RT σ) (h : RWc σ w) (hb : RWb w) {k i : Nat} (hk : k < 15) (hi : i < 8) : (m_may w k i → f_X5_win σ (nI k) (nI i) = some (q_wr σ 24 k (nI i), 1)) ∧ (¬ m_may w k i → f_X5_win σ (nI k) (nI i) = some (σ, -2)) := by
  have hm : 0 ≤ nI k ∧ nI k ≤ 14 := ⟨z_ge0 (by omega), nI_le (b := 14) (by omega) (by decide)⟩
  have hp : 0 ≤ nI i ∧ nI i ≤ 7 := ⟨z_ge0 (by omega), nI_le (b := 7) (by omega) (by decide)⟩
  have b0 : ∀ q, m_pl w 0 k = some q → q < 64 := fun q hq => by have := m_pl8 hb hk (by decide) hq; omega
  have b1 : ∀ q, m_pl w 1 k = some q → q < 64 := fun q hq => by have := m_pl8 hb hk (by decide) hq; omega
  have w0 : f_X1_who σ (nI k) 0 = _ := c_who hT h hb hk (j := 0) (by decide)
  have w1 : f_X1_who σ (nI k) 1 = _ := c_who hT h hb hk (j := 1) (by decide)
  have hC : f_X5_win σ (nI k) (nI i) = if m_pl w 0 k = none then some (σ, -2) else if m_pl w 1 k = none then some (σ, -2) else if w k = none then (if some i = m_pl w 0 k ∨ some i = m_pl w 1 k then some (q_wr σ 24 k (nI i), 1) else some (σ, -2)) else some (σ, -2) := by
    simp only [f_X5_win, r_isMatch, r_isPlayer, b_some, if_pos hm, if_pos hp, f_X1_give, w0, w1, e_c4 b0, e_c4 b1]
    rw [if_neg (by decide), if_neg (by decide)]
    by_cases q0 : m_pl w 0 k = none
    · rw [if_pos q0, if_pos q0]; rfl
    · rw [if_neg q0, if_neg q0]
      by_cases q1 : m_pl w 1 k = none
      · rw [if_pos q1, if_pos q1]; rfl
      · rw [if_neg q1, if_neg q1, r_at (a := 24) (n := 15) σ hk (by decide), b_some, h k hk]
        simp only [e_c4 (b64 (hb k))]
        by_cases q2 : w k = none
        · rw [if_pos q2, if_pos q2]
          have e0 : (nI i = e_c (m_pl w 0 k)) ↔ some i = m_pl w 0 k := e_ci (x := some i) (fun z hz => by cases hz; omega) b0
          have e1 : (nI i = e_c (m_pl w 1 k)) ↔ some i = m_pl w 1 k := e_ci (x := some i) (fun z hz => by cases hz; omega) b1
          by_cases q3 : nI i = e_c (m_pl w 0 k)
          · rw [if_pos q3, r_J55 σ hk, if_pos (Or.inl (e0.mp q3))]; rfl
          · rw [if_neg q3]
            by_cases q4 : nI i = e_c (m_pl w 1 k)
            · rw [if_pos q4, r_J55 σ hk, if_pos (Or.inr (e1.mp q4))]; rfl
            · rw [if_neg q4, if_neg (fun z => z.elim (fun z => q3 (e0.mpr z)) (fun z => q4 (e1.mpr z)))]; rfl
        · rw [if_neg q2, if_neg q2]; rfl
  rw [hC]
  refine ⟨fun ⟨q0, q1, q2, q3⟩ => by rw [if_neg q0, if_neg q1, if_pos q2, if_pos q3], fun hn => ?_⟩
  by_cases q0 : m_pl w 0 k = none
  · rw [if_pos q0]
  · rw [if_neg q0]
    by_cases q1 : m_pl w 1 k = none
    · rw [if_pos q1]
    · rw [if_neg q1]
      by_cases q2 : w k = none
      · rw [if_pos q2, if_neg (fun z => hn ⟨q0, q1, q2, z⟩)]
      · rw [if_neg q2]
theorem m_win {σ : Sg} {w : Nat → Option Nat} (h : RWm σ w) (hb : RWb w) {k i : Nat} (hk : k < 15) (hi : i < 8) : (m_may w k i → f_X6_win σ (nI k) (nI i) = some (q_wr σ 44 k (nI i), 1)) ∧ (¬ m_may w k i → f_X6_win σ (nI k) (nI i) = some (σ, -2)) := by
  have hm : 0 ≤ nI k ∧ nI k ≤ 14 := ⟨z_ge0 (by omega), nI_le (b := 14) (by omega) (by decide)⟩
  have hp : 0 ≤ nI i ∧ nI i ≤ 7 := ⟨z_ge0 (by omega), nI_le (b := 7) (by omega) (by decide)⟩
  have b0 : ∀ q, m_pl w 0 k = some q → q < 64 := fun q hq => by have := m_pl8 hb hk (by decide) hq; omega
  have b1 : ∀ q, m_pl w 1 k = some q → q < 64 := fun q hq => by have := m_pl8 hb hk (by decide) hq; omega
  have v0 : f_X6_playerOf σ (nI k) 0 = _ := m_who h hb hk (j := 0) (by decide)
  have v1 : f_X6_playerOf σ (nI k) 1 = _ := m_who h hb hk (j := 1) (by decide)
  have hC : f_X6_win σ (nI k) (nI i) = if m_pl w 0 k = none then some (σ, -2) else if m_pl w 1 k = none then some (σ, -2) else if w k = none then (if some i = m_pl w 0 k ∨ some i = m_pl w 1 k then some (q_wr σ 44 k (nI i), 1) else some (σ, -2)) else some (σ, -2) := by
    simp only [f_X6_win, r_isMatchM, r_isPlayerM, b_some, if_pos hm, if_pos hp, v0, v1, e_m0 b0, e_m0 b1]
    rw [if_neg (by decide), if_neg (by decide)]
    by_cases q0 : m_pl w 0 k = none
    · rw [if_pos q0, if_pos q0]
    · rw [if_neg q0, if_neg q0]
      by_cases q1 : m_pl w 1 k = none
      · rw [if_pos q1, if_pos q1]
      · rw [if_neg q1, if_neg q1, if_neg (o_in hk (by decide)), z_cl (show k < 2147483648 by omega), h k hk]
        by_cases q2 : w k = none
        · rw [if_neg (by rw [q2]; decide), if_pos q2]
          have e0 : (nI i = e_m (m_pl w 0 k)) ↔ some i = m_pl w 0 k := e_mi (x := some i) (fun z hz => by cases hz; omega) b0
          have e1 : (nI i = e_m (m_pl w 1 k)) ↔ some i = m_pl w 1 k := e_mi (x := some i) (fun z hz => by cases hz; omega) b1
          by_cases q3 : nI i = e_m (m_pl w 0 k)
          · rw [if_pos q3, r_J63 σ hk, if_pos (Or.inl (e0.mp q3))]
          · rw [if_neg q3]
            by_cases q4 : nI i = e_m (m_pl w 1 k)
            · rw [if_pos q4, r_J63 σ hk, if_pos (Or.inr (e1.mp q4))]
            · rw [if_neg q4, if_neg (fun z => z.elim (fun z => q3 (e0.mpr z)) (fun z => q4 (e1.mpr z)))]
        · rw [if_neg q2, if_pos]
          cases hq : w k with
          | none => exact absurd hq q2
          | some z => exact z_ge0 (by have := hb k z hq; omega)
  rw [hC]
  refine ⟨fun ⟨q0, q1, q2, q3⟩ => by rw [if_neg q0, if_neg q1, if_pos q2, if_pos q3], fun hn => ?_⟩
  by_cases q0 : m_pl w 0 k = none
  · rw [if_pos q0]
  · rw [if_neg q0]
    by_cases q1 : m_pl w 1 k = none
    · rw [if_pos q1]
    · rw [if_neg q1]
      by_cases q2 : w k = none
      · rw [if_pos q2, if_neg (fun z => hn ⟨q0, q1, q2, z⟩)]
      · rw [if_neg q2]
theorem x_winBad (σ : Sg) (m p : Int32) (h : ¬ (0 ≤ m ∧ m ≤ 14) ∨ ¬ (0 ≤ p ∧ p ≤ 7)) : f_X5_win σ m p = some (σ, -1) ∧ f_X6_win σ m p = some (σ, -1) := by
  by_cases hm : 0 ≤ m ∧ m ≤ 14
  · have hp : ¬ (0 ≤ p ∧ p ≤ 7) := h.elim (fun z => absurd hm z) id
    exact ⟨by simp only [f_X5_win, r_isMatch, r_isPlayer, b_some, if_pos hm, if_neg hp]; rfl, by simp only [f_X6_win, r_isMatchM, r_isPlayerM, b_some, if_pos hm, if_neg hp]; rfl⟩
  · exact ⟨by simp only [f_X5_win, r_isMatch, b_some, if_neg hm]; rfl, by simp only [f_X6_win, r_isMatchM, b_some, if_neg hm]; rfl⟩
/-- the winners' part of the relation -/
def RW (σ : Sg) : Prop := ∃ w, RWc σ w ∧ RWm σ w ∧ RWb w ∧ RMc w
theorem RW_c {σ τ : Sg} (h1 : τ 24 = σ 24) (h2 : τ 44 = σ 44) (h : RW σ) : RW τ := by
  obtain ⟨w, a, b, c⟩ := h
  exact ⟨w, fun m hm => by rw [h1]; exact a m hm, fun m hm => by rw [h2]; exact b m hm, c⟩
theorem p_match {σ : Sg} (hT : RT σ) (h : RW σ) (m j : Int32) : ∃ r, f_X5_match σ m j = some (σ, r) ∧ f_X6_match σ m j = some (σ, r) := by
  obtain ⟨w, a, b, c, d⟩ := h
  exact ⟨_, c_match hT a c m j, m_match b c m j⟩
theorem p_win {σ : Sg} (hT : RT σ) (h : RW σ) (m p : Int32) : ∃ σ1 σ2 r, f_X5_win σ m p = some (σ1, r) ∧ (∀ o, o ≠ 24 → σ1 o = σ o) ∧ f_X6_win σ1 m p = some (σ2, r) ∧ (∀ o, o ≠ 44 → σ2 o = σ1 o) ∧ RW σ2 := by
  by_cases hq : (0 ≤ m ∧ m ≤ 14) ∧ (0 ≤ p ∧ p ≤ 7)
  · obtain ⟨k, hk, rfl⟩ := z_match hq.1
    obtain ⟨i, hi, rfl⟩ := z_player hq.2
    obtain ⟨w, a, b, c, d⟩ := id h
    by_cases hmay : m_may w k i
    · have b2 : RWm (q_wr σ 24 k (nI i)) w := fun m hm => by rw [w_ne _ _ _ (by decide)]; exact b m hm
      refine ⟨_, _, _, (c_win hT a c hk hi).1 hmay, fun o ho => w_ne _ _ _ ho, (m_win b2 c hk hi).1 hmay, fun o ho => w_ne _ _ _ ho, m_up w k i, ?_, ?_, ?_, m_up_c hk d hmay.1 hmay.2.1 hmay.2.2.1⟩
      · intro x hx
        rw [w_ne _ _ _ (by decide), w_at]
        by_cases hxk : x = k
        · subst hxk; rw [if_pos ⟨rfl, rfl⟩, m_up_eq]; rfl
        · rw [if_neg (fun z => hxk z.2), m_up_ne w i hxk]; exact a x hx
      · intro x hx
        rw [w_at]
        by_cases hxk : x = k
        · subst hxk; rw [if_pos ⟨rfl, rfl⟩, m_up_eq]; rfl
        · rw [if_neg (fun z => hxk z.2), m_up_ne w i hxk]; exact b2 x hx
      · intro x z hz
        by_cases hxk : x = k
        · subst hxk; rw [m_up_eq] at hz; cases hz; exact hi
        · rw [m_up_ne w i hxk] at hz; exact c x z hz
    · exact ⟨_, _, _, (c_win hT a c hk hi).2 hmay, fun _ _ => rfl, (m_win b c hk hi).2 hmay, fun _ _ => rfl, h⟩
  · have hq2 : ¬ (0 ≤ m ∧ m ≤ 14) ∨ ¬ (0 ≤ p ∧ p ≤ 7) := by
      by_cases hm : 0 ≤ m ∧ m ≤ 14
      · exact Or.inr (fun z => hq ⟨hm, z⟩)
      · exact Or.inl hm
    exact ⟨_, _, _, (x_winBad σ m p hq2).1, fun _ _ => rfl, (x_winBad σ m p hq2).2, fun _ _ => rfl, h⟩
theorem p_champion {σ : Sg} (h : RW σ) : ∃ r, f_X5_champion σ = some (σ, r) ∧ f_X6_champion σ = some (σ, r) := by
  obtain ⟨w, a, b, c, d⟩ := h
  have a6 := a 6 (by decide)
  have a13 := a 13 (by decide)
  have a14 := a 14 (by decide)
  have b6 := b 6 (by decide)
  have b13 := b 13 (by decide)
  have b14 := b 14 (by decide)
  have hC : f_X5_champion σ = some (σ, if w 6 = w 13 then e_c (w 6) else e_c (w 14)) := by
    have r6 : f_X5_at 24 15 σ 6 = _ := r_at (a := 24) (n := 15) (k := 6) σ (by decide) (by decide)
    have r13 : f_X5_at 24 15 σ 13 = _ := r_at (a := 24) (n := 15) (k := 13) σ (by decide) (by decide)
    have r14 : f_X5_at 24 15 σ 14 = _ := r_at (a := 24) (n := 15) (k := 14) σ (by decide) (by decide)
    simp only [f_X5_champion, f_X1_best, r6, r13, r14, b_some, a6, a13, a14, e_ci (b64 (c 6)) (b64 (c 13))]
    by_cases q : w 6 = w 13
    · rw [if_pos q, if_pos q]; rfl
    · rw [if_neg q, if_neg q]; rfl
  have hM : f_X6_champion σ = if σ 44 6 < 0 then (if 0 ≤ σ 44 14 then some (σ, σ 44 14) else some (σ, -4)) else if σ 44 6 = σ 44 13 then some (σ, σ 44 6) else (if 0 ≤ σ 44 14 then some (σ, σ 44 14) else some (σ, -4)) := rfl
  have h14 : (if 0 ≤ σ 44 14 then some (σ, σ 44 14) else some (σ, -4)) = some (σ, e_c (w 14)) := by
    rw [b14, ← e_cm (w 14) (b64 (c 14))]
    by_cases q : 0 ≤ e_m (w 14)
    · rw [if_pos q, if_pos q]
    · rw [if_neg q, if_neg q]
  refine ⟨_, hC, ?_⟩
  rw [hM, h14, b6, b13]
  simp only [e_m0 (b64 (c 6)), e_mi (b64 (c 6)) (b64 (c 13))]
  by_cases q6 : w 6 = none
  · rw [if_pos q6]
    by_cases q : w 6 = w 13
    · rw [if_pos q, q6]
      have : w 14 = none := by
        cases hw : w 14 with
        | none => rfl
        | some z =>
          have h0 := (d 14 (by decide) (by rw [hw]; exact fun z => by cases z)).1
          rw [m_pl_told] at h0
          exact absurd q6 ((h0 6 rfl).2 rfl).1
      rw [this]
    · rw [if_neg q]
  · rw [if_neg q6]
    by_cases q : w 6 = w 13
    · rw [if_pos q, if_pos q]
      cases hw : w 6 with
      | none => exact absurd hw q6
      | some z => rfl
    · rw [if_neg q, if_neg q]
