/-! what is asked about the game: told, state, count; the law's number for a position -/
theorem k_has {σ : Sg} {S k : Nat} (G : GO σ S) (hk : k < S) : f_X2_has σ (nI k) = some (σ, 1) := by
  have hS := G.1
  unfold f_X2_has
  rw [if_neg (show ¬ nI k < 0 from nI_pos (by omega)), G.2.2.1, if_neg (nI_ge hk (by omega))]
theorem k_told0 {σ : Sg} {S k : Nat} (G : GO σ S) (hk : k < S) : f_X5_told σ (nI k) 0 = some (σ, σ 2 k) := by
  have hS := G.1
  have n10 : ¬ (1 : Int32) = 0 := by decide
  unfold f_X5_told f_X2_tell
  rw [if_neg (show ¬ nI k < 0 from nI_pos (by omega)), r_within, b_some, if_pos (show (0 : Int32) ≤ 0 ∧ (0 : Int32) ≤ 3 by decide), if_neg n10, k_has G hk, b_some, if_neg n10, if_neg (by decide), if_neg (by decide), if_pos (by decide), r_at (a := 2) (n := 150) σ (show k < 150 by omega) (by decide), b_some, b_some]
theorem k_told3 {σ : Sg} {S k : Nat} (G : GO σ S) (hk : k < S) : f_X5_told σ (nI k) 3 = some (σ, σ 6 k) := by
  have hS := G.1
  have n10 : ¬ (1 : Int32) = 0 := by decide
  unfold f_X5_told f_X2_tell
  rw [if_neg (show ¬ nI k < 0 from nI_pos (by omega)), r_within, b_some, if_pos (show (0 : Int32) ≤ 3 ∧ (3 : Int32) ≤ 3 by decide), if_neg n10, k_has G hk, b_some, if_neg n10, if_neg (by decide), if_pos (by decide), r_at (a := 6) (n := 150) σ (show k < 150 by omega) (by decide), b_some, b_some]
theorem k_state {σ : Sg} {S k q : Nat} (G : GO σ S) (hk : k ≤ S) (hq : q < 12) : ∃ σ1, f_X5_state σ (nI k) (nI q) = some (σ1, pTell (rp σ k) q) ∧ Fa σ σ1 := by
  have hS := G.1
  have n10 : ¬ (1 : Int32) = 0 := by decide
  obtain ⟨σ1, a1, a2, a3⟩ := c_leadTo (o := 12) (Or.inr rfl) hk hS G.2.2.1 (GO_P G)
  refine ⟨σ1, ?_, fun o ho => a3 o (by omega) (by omega) (by omega)⟩
  unfold f_X5_state f_X2_asOf
  rw [r_within, b_some, if_pos (show 0 ≤ nI q ∧ nI q ≤ 11 from ⟨nI_pos' (by omega), nI_le (b := 11) (by omega) (by omega)⟩), if_neg n10, if_neg (show ¬ σ 1 9 = 0 by rw [G.2.1]; decide), G.2.2.1, if_neg (nI_pos (by omega)), if_pos (nI_le (by omega) (by omega)), a1, b_some, c_tell 12 σ1 hq, b_some, b_some, a2]
/-- the law's number: eleven and more to a place -/
def Tq (p : Ps) : Nat → Int64
  | 0 => 0
  | q + 1 => (((41 : Int64) * Tq p q) + (pTell p q).toInt64) + 5
theorem lj_eq (x : Int64) (f : Int64 → Rs) : q_letJ x f = f x := rfl
theorem k_tellL {S k : Nat} (hk : k ≤ S) {p : Ps} : ∀ (d j q : Nat) (τ : Sg), j + d = 12 → d < q → GO τ S → rp τ k = p → ∃ τ', f_L_told_L5 q τ (nI k) (Tq p j) (nI j) = some (τ', 0) ∧ Fa τ τ' ∧ q_lg τ' 200 0 = Tq p 12 := by
  intro d
  induction d with
  | zero =>
    intro j q τ hj hq G hp
    obtain ⟨q, rfl⟩ : ∃ p, q = p + 1 := ⟨q - 1, by omega⟩
    have : j = 12 := by omega
    subst this
    refine ⟨q_wrl τ 200 0 (Tq p 12), ?_, fun o ho => q_wrl_ne (by omega), q_lg_wrl _ _ _ _⟩
    show s_L_told_L5 (f_L_told_L5 q) τ (nI k) (Tq p 12) (nI 12) = _
    unfold s_L_told_L5
    rw [if_pos (by decide)]
  | succ d ih =>
    intro j q τ hj hq G hp
    obtain ⟨q, rfl⟩ : ∃ p, q = p + 1 := ⟨q - 1, by omega⟩
    obtain ⟨τ1, a1, a2⟩ := k_state G hk (q := j) (by omega)
    obtain ⟨τ2, b1, b2, b3⟩ := ih (j + 1) q τ1 (by omega) (by omega) (GO_a a2 G) (by rw [rp_a a2]; exact hp)
    refine ⟨τ2, ?_, Fa_t a2 b2, b3⟩
    show s_L_told_L5 (f_L_told_L5 q) τ (nI k) (Tq p j) (nI j) = _
    unfold s_L_told_L5
    rw [if_neg (show ¬ (12 : Int32) ≤ nI j from nI_ge (b := 12) (by omega) (by decide)), a1, b_some, lj_eq, l_eq, nI_1, hp]
    exact b1
theorem k_tell {σ : Sg} {S k : Nat} (G : GO σ S) (hk : k ≤ S) : ∃ σ', f_L_told σ (nI k) = some (σ', 0) ∧ Fa σ σ' ∧ q_lg σ' 200 0 = Tq (rp σ k) 12 :=
  k_tellL hk 12 0 1000 σ (by omega) (by omega) G rfl
/-- what is counted -/
def cn (σ : Sg) (j : Nat) : Nat → Int32
  | 0 => 0
  | k + 1 => cn σ j k + (if j = 0 then 1 else σ 6 k)
theorem cn_0 (σ : Sg) : ∀ k, cn σ 0 k = nI k := by
  intro k
  induction k with
  | zero => rfl
  | succ k ih =>
    show cn σ 0 k + 1 = _
    rw [ih, nI_1]
theorem k_countS {σ : Sg} {S k j : Nat} (G : GO σ S) (hk : k < S) (hj : j < 2) (acc : Int32) (r1 : Sg → Int32 → Int32 → Int32 → Rs) : s_X2_total_L4 r1 σ (nI j) acc (nI k) = r1 σ (nI j) (acc + (if j = 0 then 1 else σ 6 k)) (nI (k + 1)) := by
  have hS := G.1
  have h10 := G.2.2.1
  obtain ⟨d, b', a1, a2, a3, a4, a5, a6, a12⟩ := G.2.2.2.1 k hk
  have n10 : ¬ (1 : Int32) = 0 := by decide
  have l1 : ¬ (nI S ≤ nI k) := nI_ge hk (by omega)
  have l2 : ¬ ((150 : Int32) ≤ nI k) := nI_ge (b := 150) (by omega) (by decide)
  have acc0 : acc + 0 = acc := by simp
  unfold s_X2_total_L4
  rw [h10, if_neg l1, if_neg l2]
  unfold f_X2_counts
  match j, hj with
  | 0, _ => rw [if_pos (show nI 0 = (0 : Int32) from rfl), b_some, if_neg n10, l_eq, l_eq, nI_1, if_pos rfl]
  | 1, _ =>
    have e6 : f_X5_at 6 150 σ (nI k) = some (σ, σ 6 k) := r_at (a := 6) (n := 150) σ (show k < 150 by omega) (by decide)
    rw [if_neg (show ¬ nI 1 = (0 : Int32) by decide), if_pos (show nI 1 = (1 : Int32) from rfl), e6, b_some, if_neg (show ¬ (1 : Nat) = 0 by decide)]
    rcases a12 with z | z
    · rw [z, if_neg (show ¬ (0 : Int32) = 1 by decide), b_some, if_pos rfl, l_eq, nI_1, acc0]
    · rw [z, if_pos rfl, b_some, if_neg n10, l_eq, l_eq, nI_1]
  | n + 2, h => exact absurd h (by omega)
theorem k_countL {σ : Sg} {S j : Nat} (G : GO σ S) (hj : j < 2) : ∀ (d k q : Nat), k + d = S → d < q → f_X2_total_L4 q σ (nI j) (cn σ j k) (nI k) = some (σ, cn σ j S) := by
  have hS := G.1
  have h10 := G.2.2.1
  intro d
  induction d with
  | zero =>
    intro k q hk hq
    obtain ⟨q, rfl⟩ : ∃ p, q = p + 1 := ⟨q - 1, by omega⟩
    have : k = S := by omega
    subst this
    show s_X2_total_L4 (f_X2_total_L4 q) σ (nI j) (cn σ j k) (nI k) = _
    unfold s_X2_total_L4
    rw [h10, if_pos (nI_le (Nat.le_refl _) (by omega))]
  | succ d ih =>
    intro k q hk hq
    obtain ⟨q, rfl⟩ : ∃ p, q = p + 1 := ⟨q - 1, by omega⟩
    exact (k_countS G (show k < S by omega) hj (cn σ j k) (f_X2_total_L4 q)).trans (ih (k + 1) q (by omega) (by omega))
theorem k_count {σ : Sg} {S j : Nat} (G : GO σ S) (hj : j < 2) : f_X5_count σ (nI j) = some (σ, cn σ j S) := by
  have hS := G.1
  unfold f_X5_count f_X2_total
  rw [r_within, b_some, if_pos (show (0 : Int32) ≤ nI j ∧ nI j ≤ 2 from ⟨nI_pos' (by omega), nI_le (b := 2) (by omega) (by omega)⟩), if_neg (show ¬ (1 : Int32) = 0 by decide), show f_X2_total_L4 1000 σ (nI j) 0 0 = _ from k_countL G hj S 0 1000 (by omega) (by omega), b_some]
