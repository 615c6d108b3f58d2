/-! hours on lawns -/
def RHc (σ : Sg) (h : Nat → Option Nat) : Prop := ∀ m, m < 15 → σ 25 m = e_c (h m)
def RHm (σ : Sg) (h : Nat → Option Nat) : Prop := ∀ m, m < 15 → σ 45 m = e_m (h m)
def m_cn (h : Nat → Option Nat) (k : Nat) : Nat := ((List.range k).filter (fun i => (h i).isSome)).length
def RHb (h : Nat → Option Nat) : Prop := ∀ m, m < 15 → ∀ k, h m = some k → k < m_cn h 15
theorem m_cn_s (h : Nat → Option Nat) (k : Nat) : m_cn h (k + 1) = m_cn h k + if h k = none then 0 else 1 := by
  unfold m_cn
  rw [List.range_succ, List.filter_append, List.length_append]
  cases hk : h k with
  | none => simp [hk]
  | some z => simp [hk]
theorem m_cn_le (h : Nat → Option Nat) (k : Nat) : m_cn h k ≤ k := by
  induction k with
  | zero => exact Nat.le_refl _
  | succ k ih => rw [m_cn_s]; split <;> omega
theorem m_cn_mono (h : Nat → Option Nat) {a b : Nat} (hab : a ≤ b) : m_cn h a ≤ m_cn h b := by
  induction b with
  | zero => rw [show a = 0 by omega]; exact Nat.le_refl _
  | succ b ih =>
    by_cases e : a = b + 1
    · rw [e]; exact Nat.le_refl _
    · have := ih (by omega)
      rw [m_cn_s]; split <;> omega
theorem h64 {h : Nat → Option Nat} (hb : RHb h) {m : Nat} (hm : m < 15) : ∀ k, h m = some k → k < 64 := fun k hk => by have := hb m hm k hk; have := m_cn_le h 15; omega
theorem c_laidL {σ : Sg} {h : Nat → Option Nat} (hc : RHc σ h) (hb : RHb h) : ∀ (d k q : Nat), k + d = 15 → d < q → f_X1_laid_L4 q σ (nI (m_cn h k)) (nI k) = some (σ, nI (m_cn h 15)) := by
  intro d
  induction d with
  | zero =>
    intro k q hk hq
    obtain ⟨q, rfl⟩ : ∃ p, q = p + 1 := ⟨q - 1, by omega⟩
    have : k = 15 := by omega
    subst this
    show s_X1_laid_L4 (f_X1_laid_L4 q) σ (nI (m_cn h 15)) (nI 15) = _
    unfold s_X1_laid_L4
    rw [if_pos (by decide)]
  | succ d ih =>
    intro k q hk hq
    obtain ⟨q, rfl⟩ : ∃ p, q = p + 1 := ⟨q - 1, by omega⟩
    have hk2 : k < 15 := by omega
    have e : f_X1_laid_L4 (q + 1) σ (nI (m_cn h k)) (nI k) = s_X1_laid_L4 (f_X1_laid_L4 q) σ (nI (m_cn h k)) (nI k) := rfl
    rw [e]
    unfold s_X1_laid_L4
    rw [if_neg (show ¬ (15 : Int32) ≤ nI k from nI_ge (b := 15) (by omega) (by omega)), r_at (a := 25) (n := 15) σ hk2 (by decide), b_some, hc k hk2]
    simp only [e_c4 (h64 hb hk2)]
    have hI := ih (k + 1) q (by omega) (by omega)
    rw [m_cn_s] at hI
    by_cases q1 : h k = none
    · rw [if_pos q1] at hI ⊢
      rw [l_eq, nI_1]
      exact hI
    · rw [if_neg q1] at hI ⊢
      rw [l_eq, l_eq, nI_1, nI_1]
      exact hI
theorem c_laid {σ : Sg} {h : Nat → Option Nat} (hc : RHc σ h) (hb : RHb h) : f_X1_laid σ = some (σ, nI (m_cn h 15)) := c_laidL hc hb 15 0 1000 (by decide) (by decide)
theorem m_laidL {σ : Sg} {h : Nat → Option Nat} (hc : RHm σ h) (hb : RHb h) : ∀ (d k q : Nat), k + d = 15 → d < q → f_X6_laid_L4 q σ (nI (m_cn h k)) (nI k) = some (σ, nI (m_cn h 15)) := by
  intro d
  induction d with
  | zero =>
    intro k q hk hq
    obtain ⟨q, rfl⟩ : ∃ p, q = p + 1 := ⟨q - 1, by omega⟩
    have : k = 15 := by omega
    subst this
    show s_X6_laid_L4 (f_X6_laid_L4 q) σ (nI (m_cn h 15)) (nI 15) = _
    unfold s_X6_laid_L4
    rw [if_pos (by decide)]
  | succ d ih =>
    intro k q hk hq
    obtain ⟨q, rfl⟩ : ∃ p, q = p + 1 := ⟨q - 1, by omega⟩
    have hk2 : k < 15 := by omega
    have e : f_X6_laid_L4 (q + 1) σ (nI (m_cn h k)) (nI k) = s_X6_laid_L4 (f_X6_laid_L4 q) σ (nI (m_cn h k)) (nI k) := rfl
    rw [e]
    unfold s_X6_laid_L4
    rw [if_neg (show ¬ (15 : Int32) ≤ nI k from nI_ge (b := 15) (by omega) (by omega)), if_neg (o_in hk2 (by decide)), z_cl (show k < 2147483648 by omega), hc k hk2]
    simp only [e_m0 (h64 hb hk2)]
    have hI := ih (k + 1) q (by omega) (by omega)
    rw [m_cn_s] at hI
    by_cases q1 : h k = none
    · rw [if_pos q1] at hI ⊢
      rw [l_eq, l_eq, nI_1, show nI (m_cn h k) + 0 = nI (m_cn h k + 0) from nI_add _ 0]
      exact hI
    · rw [if_neg q1] at hI ⊢
      rw [l_eq, l_eq, nI_1, nI_1]
      exact hI
theorem m_laid {σ : Sg} {h : Nat → Option Nat} (hc : RHm σ h) (hb : RHb h) : f_X6_laid σ = some (σ, nI (m_cn h 15)) := m_laidL hc hb 15 0 1000 (by decide) (by decide)
/-- who stands in whose way -/
def m_in (w : Nat → Option Nat) (p : Option Nat) (k : Nat) : Prop := p ≠ none ∧ (p = m_pl w 0 k ∨ p = m_pl w 1 k)
def m_cf (w : Nat → Option Nat) (m k : Nat) : Prop := m_in w (m_pl w 0 m) k ∨ m_in w (m_pl w 1 m) k
def m_ct (h : Nat → Option Nat) (r k : Nat) : Nat := ((List.range k).filter (fun i => decide (h i = some r))).length
theorem m_ct_s (h : Nat → Option Nat) (r k : Nat) : m_ct h r (k + 1) = m_ct h r k + if h k = some r then 1 else 0 := by
  unfold m_ct
  rw [List.range_succ, List.filter_append, List.length_append]
  by_cases hk : h k = some r
  · simp [hk]
  · simp [hk]
theorem m_ct_le (h : Nat → Option Nat) (r k : Nat) : m_ct h r k ≤ k := by
  induction k with
  | zero => exact Nat.le_refl _
  | succ k ih => rw [m_ct_s]; split <;> omega
theorem pl64 {w : Nat → Option Nat} (hb : RWb w) {k : Nat} (hk : k < 15) {j : Nat} (hj : j < 2) : ∀ q, m_pl w j k = some q → q < 64 := fun q hq => by have := m_pl8 hb hk hj hq; omega
theorem c_plays {σ : Sg} {w : Nat → Option Nat} (hT : RT σ) (h : RWc σ w) (hb : RWb w) {k : Nat} (hk : k < 15) {p : Option Nat} (hp : ∀ q, p = some q → q < 64) : (m_in w p k → f_X1_plays σ (nI k) (e_c p) = some (σ, 1)) ∧ (¬ m_in w p k → f_X1_plays σ (nI k) (e_c p) = some (σ, 0)) := by
  have w0 : f_X1_who σ (nI k) 0 = _ := c_who hT h hb hk (j := 0) (by decide)
  have w1 : f_X1_who σ (nI k) 1 = _ := c_who hT h hb hk (j := 1) (by decide)
  unfold f_X1_plays
  simp only [e_c4 hp, w0, w1, b_some, e_ci hp (pl64 hb hk (j := 0) (by decide)), e_ci hp (pl64 hb hk (j := 1) (by decide))]
  by_cases q0 : p = none
  · rw [if_pos q0]
    exact ⟨fun z => absurd q0 z.1, fun _ => rfl⟩
  · rw [if_neg q0]
    by_cases q1 : p = m_pl w 0 k
    · rw [if_pos q1]
      exact ⟨fun _ => rfl, fun z => absurd ⟨q0, Or.inl q1⟩ z⟩
    · rw [if_neg q1]
      by_cases q2 : p = m_pl w 1 k
      · rw [if_pos q2]
        exact ⟨fun _ => rfl, fun z => absurd ⟨q0, Or.inr q2⟩ z⟩
      · rw [if_neg q2]
        exact ⟨fun z => z.2.elim (fun y => absurd y q1) (fun y => absurd y q2), fun _ => rfl⟩
theorem m_isIn {σ : Sg} {w : Nat → Option Nat} (h : RWm σ w) (hb : RWb w) {k : Nat} (hk : k < 15) {p : Option Nat} (hp : ∀ q, p = some q → q < 64) : (m_in w p k → f_X6_isIn σ (e_m p) (nI k) = some (σ, 1)) ∧ (¬ m_in w p k → f_X6_isIn σ (e_m p) (nI k) = some (σ, 0)) := by
  have w0 : f_X6_playerOf σ (nI k) 0 = _ := m_who h hb hk (j := 0) (by decide)
  have w1 : f_X6_playerOf σ (nI k) 1 = _ := m_who h hb hk (j := 1) (by decide)
  unfold f_X6_isIn
  simp only [e_m0 hp, w0, w1, b_some, e_mi (pl64 hb hk (j := 0) (by decide)) hp, e_mi (pl64 hb hk (j := 1) (by decide)) hp]
  by_cases q0 : p = none
  · rw [if_pos q0]
    exact ⟨fun z => absurd q0 z.1, fun _ => rfl⟩
  · rw [if_neg q0]
    by_cases q1 : m_pl w 0 k = p
    · rw [if_pos q1]
      exact ⟨fun _ => rfl, fun z => absurd ⟨q0, Or.inl q1.symm⟩ z⟩
    · rw [if_neg q1]
      by_cases q2 : m_pl w 1 k = p
      · rw [if_pos q2]
        exact ⟨fun _ => rfl, fun z => absurd ⟨q0, Or.inr q2.symm⟩ z⟩
      · rw [if_neg q2]
        exact ⟨fun z => z.2.elim (fun y => absurd y.symm q1) (fun y => absurd y.symm q2), fun _ => rfl⟩
/-- an hour is free for a match -/
def m_fre (w h : Nat → Option Nat) (m r : Nat) (L : Int32) : Prop := (∀ k, k < 15 → h k = some r → ¬ m_cf w m k) ∧ nI (m_ct h r 15) < L
theorem c_freeL {σ : Sg} {w h : Nat → Option Nat} (hT : RT σ) (a : RWc σ w) (b : RWb w) (c : RHc σ h) (d : RHb h) {m r : Nat} (hm : m < 15) (hr : r < 64) : ∀ (e k q : Nat), k + e = 15 → e < q → (∀ i, i < k → h i = some r → ¬ m_cf w m i) →
    (m_fre w h m r (σ 23 2) → f_X1_isFree_L5 q σ (nI m) (nI r) (nI (m_ct h r k)) (nI k) = some (σ, 1)) ∧ (¬ m_fre w h m r (σ 23 2) → f_X1_isFree_L5 q σ (nI m) (nI r) (nI (m_ct h r k)) (nI k) = some (σ, 0)) := by
  intro e
  induction e with
  | zero =>
    intro k q hk hq hi
    obtain ⟨q, rfl⟩ : ∃ p, q = p + 1 := ⟨q - 1, by omega⟩
    have : k = 15 := by omega
    subst this
    have e1 : f_X1_isFree_L5 (q + 1) σ (nI m) (nI r) (nI (m_ct h r 15)) (nI 15) = s_X1_isFree_L5 (f_X1_isFree_L5 q) σ (nI m) (nI r) (nI (m_ct h r 15)) (nI 15) := rfl
    rw [e1]
    unfold s_X1_isFree_L5
    rw [if_pos (by decide)]
    refine ⟨fun hf => ?_, fun hf => ?_⟩
    · rw [if_neg]
      have := hf.2
      rw [z_lt] at this
      rw [z_le]; omega
    · rw [if_pos]
      rw [z_le]
      by_cases z : nI (m_ct h r 15) < σ 23 2
      · exact absurd ⟨hi, z⟩ hf
      · rw [z_lt] at z; omega
  | succ e ih =>
    intro k q hk hq hi
    obtain ⟨q, rfl⟩ : ∃ p, q = p + 1 := ⟨q - 1, by omega⟩
    have hk2 : k < 15 := by omega
    have w0 : f_X1_who σ (nI m) 0 = _ := c_who hT a b hm (j := 0) (by decide)
    have w1 : f_X1_who σ (nI m) 1 = _ := c_who hT a b hm (j := 1) (by decide)
    obtain ⟨x1, x2⟩ := c_plays hT a b hk2 (pl64 b hm (j := 0) (by decide))
    obtain ⟨y1, y2⟩ := c_plays hT a b hk2 (pl64 b hm (j := 1) (by decide))
    have e1 : f_X1_isFree_L5 (q + 1) σ (nI m) (nI r) (nI (m_ct h r k)) (nI k) = s_X1_isFree_L5 (f_X1_isFree_L5 q) σ (nI m) (nI r) (nI (m_ct h r k)) (nI k) := rfl
    rw [e1]
    unfold s_X1_isFree_L5
    rw [if_neg (show ¬ (15 : Int32) ≤ nI k from nI_ge (b := 15) (by omega) (by omega)), r_at (a := 25) (n := 15) σ hk2 (by decide), b_some, c k hk2]
    have ee : (e_c (h k) = nI r) ↔ h k = some r := e_ci (y := some r) (h64 d hk2) (fun z hz => by cases hz; exact hr)
    simp only [ee]
    have hI := ih (k + 1) q (by omega) (by omega)
    rw [m_ct_s] at hI
    by_cases q1 : h k = some r
    · rw [if_pos q1, w0, b_some]
      rw [if_pos q1] at hI
      have dead : m_cf w m k → ¬ m_fre w h m r (σ 23 2) := fun z y => y.1 k hk2 q1 z
      by_cases q2 : m_in w (m_pl w 0 m) k
      · rw [x1 q2, b_some, if_neg (by decide)]
        exact ⟨fun z => absurd z (dead (Or.inl q2)), fun _ => rfl⟩
      · rw [x2 q2, b_some, if_pos rfl, w1, b_some]
        by_cases q3 : m_in w (m_pl w 1 m) k
        · rw [y1 q3, b_some, if_neg (by decide)]
          exact ⟨fun z => absurd z (dead (Or.inr q3)), fun _ => rfl⟩
        · rw [y2 q3, b_some, if_pos rfl, l_eq, l_eq, nI_1, nI_1]
          refine hI (fun i h1 h2 => ?_)
          by_cases h3 : i = k
          · subst h3; exact fun z => z.elim q2 q3
          · exact hi i (by omega) h2
    · rw [if_neg q1, l_eq, nI_1]
      rw [if_neg q1] at hI
      refine hI (fun i h1 h2 => ?_)
      by_cases h3 : i = k
      · subst h3; exact absurd h2 q1
      · exact hi i (by omega) h2
theorem c_free {σ : Sg} {w h : Nat → Option Nat} (hT : RT σ) (a : RWc σ w) (b : RWb w) (c : RHc σ h) (d : RHb h) {m r : Nat} (hm : m < 15) (hr : r < 64) :
    (m_fre w h m r (σ 23 2) → f_X1_isFree σ (nI m) (nI r) = some (σ, 1)) ∧ (¬ m_fre w h m r (σ 23 2) → f_X1_isFree σ (nI m) (nI r) = some (σ, 0)) := c_freeL hT a b c d hm hr 15 0 1000 (by decide) (by decide) (fun i hi => absurd hi (Nat.not_lt_zero _))
theorem m_freeL {σ : Sg} {w h : Nat → Option Nat} (a : RWm σ w) (b : RWb w) (c : RHm σ h) (d : RHb h) {m r : Nat} (hm : m < 15) (hr : r < 64) : ∀ (e k q : Nat), k + e = 15 → e < q → ∀ fl : Int32, ((fl = 1 ∧ ∀ i, i < k → h i = some r → ¬ m_cf w m i) ∨ (fl = 0 ∧ ∃ i, i < k ∧ h i = some r ∧ m_cf w m i)) →
    (m_fre w h m r (σ 26 31) → f_X6_isFree_L8 q σ (nI m) (nI r) (nI (m_ct h r k)) fl (nI k) = some (σ, 1)) ∧ (¬ m_fre w h m r (σ 26 31) → f_X6_isFree_L8 q σ (nI m) (nI r) (nI (m_ct h r k)) fl (nI k) = some (σ, 0)) := by
  intro e
  induction e with
  | zero =>
    intro k q hk hq fl hfl
    obtain ⟨q, rfl⟩ : ∃ p, q = p + 1 := ⟨q - 1, by omega⟩
    have : k = 15 := by omega
    subst this
    have e1 : f_X6_isFree_L8 (q + 1) σ (nI m) (nI r) (nI (m_ct h r 15)) fl (nI 15) = s_X6_isFree_L8 (f_X6_isFree_L8 q) σ (nI m) (nI r) (nI (m_ct h r 15)) fl (nI 15) := rfl
    rw [e1]
    unfold s_X6_isFree_L8
    rw [if_pos (by decide)]
    rcases hfl with ⟨rfl, hi⟩ | ⟨rfl, i, h1, h2, h3⟩
    · rw [if_neg (by decide)]
      refine ⟨fun hf => ?_, fun hf => ?_⟩
      · rw [if_neg]
        have := hf.2
        rw [z_lt] at this
        rw [z_le]; omega
      · rw [if_pos]
        rw [z_le]
        by_cases z : nI (m_ct h r 15) < σ 26 31
        · exact absurd ⟨hi, z⟩ hf
        · rw [z_lt] at z; omega
    · rw [if_pos rfl]
      exact ⟨fun z => absurd h3 (z.1 i h1 h2), fun _ => rfl⟩
  | succ e ih =>
    intro k q hk hq fl hfl
    obtain ⟨q, rfl⟩ : ∃ p, q = p + 1 := ⟨q - 1, by omega⟩
    have hk2 : k < 15 := by omega
    have w0 : f_X6_playerOf σ (nI m) 0 = _ := m_who a b hm (j := 0) (by decide)
    have w1 : f_X6_playerOf σ (nI m) 1 = _ := m_who a b hm (j := 1) (by decide)
    obtain ⟨x1, x2⟩ := m_isIn a b hk2 (pl64 b hm (j := 0) (by decide))
    obtain ⟨y1, y2⟩ := m_isIn a b hk2 (pl64 b hm (j := 1) (by decide))
    have e1 : f_X6_isFree_L8 (q + 1) σ (nI m) (nI r) (nI (m_ct h r k)) fl (nI k) = s_X6_isFree_L8 (f_X6_isFree_L8 q) σ (nI m) (nI r) (nI (m_ct h r k)) fl (nI k) := rfl
    rw [e1]
    unfold s_X6_isFree_L8
    rw [if_neg (show ¬ (15 : Int32) ≤ nI k from nI_ge (b := 15) (by omega) (by omega)), if_neg (o_in hk2 (by decide)), z_cl (show k < 2147483648 by omega), c k hk2]
    have ee : (e_m (h k) = nI r) ↔ h k = some r := e_mi (y := some r) (h64 d hk2) (fun z hz => by cases hz; exact hr)
    simp only [ee]
    have hI := ih (k + 1) q (by omega) (by omega)
    rw [m_ct_s] at hI
    by_cases q1 : h k = some r
    · rw [if_pos q1, l_eq, nI_1]
      rw [if_pos q1] at hI
      rcases hfl with ⟨rfl, hi⟩ | ⟨rfl, i, h1, h2, h3⟩
      · rw [if_neg (by decide), w0, b_some]
        by_cases q2 : m_in w (m_pl w 0 m) k
        · rw [x1 q2, b_some, if_neg (by decide), l_eq, nI_1]
          exact hI 0 (Or.inr ⟨rfl, k, by omega, q1, Or.inl q2⟩)
        · rw [x2 q2, b_some, if_pos rfl, w1, b_some]
          by_cases q3 : m_in w (m_pl w 1 m) k
          · rw [y1 q3, b_some, if_neg (by decide), l_eq, nI_1]
            exact hI 0 (Or.inr ⟨rfl, k, by omega, q1, Or.inr q3⟩)
          · rw [y2 q3, b_some, if_pos rfl, l_eq, nI_1]
            refine hI 1 (Or.inl ⟨rfl, fun i h1 h2 => ?_⟩)
            by_cases h3 : i = k
            · subst h3; exact fun z => z.elim q2 q3
            · exact hi i (by omega) h2
      · rw [if_pos rfl, l_eq, nI_1]
        exact hI 0 (Or.inr ⟨rfl, i, by omega, h2, h3⟩)
    · rw [if_neg q1, l_eq, nI_1]
      rw [if_neg q1] at hI
      refine hI fl ?_
      rcases hfl with ⟨rfl, hi⟩ | ⟨rfl, i, h1, h2, h3⟩
      · refine Or.inl ⟨rfl, fun i h1 h2 => ?_⟩
        by_cases h3 : i = k
        · subst h3; exact absurd h2 q1
        · exact hi i (by omega) h2
      · exact Or.inr ⟨rfl, i, by omega, h2, h3⟩
theorem m_free {σ : Sg} {w h : Nat → Option Nat} (a : RWm σ w) (b : RWb w) (c : RHm σ h) (d : RHb h) {m r : Nat} (hm : m < 15) (hr : r < 64) :
    (m_fre w h m r (σ 26 31) → f_X6_isFree σ (nI m) (nI r) = some (σ, 1)) ∧ (¬ m_fre w h m r (σ 26 31) → f_X6_isFree σ (nI m) (nI r) = some (σ, 0)) := m_freeL a b c d hm hr 15 0 1000 (by decide) (by decide) 1 (Or.inl ⟨rfl, fun i hi => absurd hi (Nat.not_lt_zero _)⟩)
