/-! count and settle -/
theorem k_countS {σ : Sg} {S k j : Nat} (G : GO σ S) (hk : k < S) (hj : j < 3) (acc : Int32) (r1 r2 : Sg → Int32 → Int32 → Int32 → Rs) : ∃ acc', s_X2_total_L4 r1 σ (nI j) acc (nI k) = r1 σ (nI j) acc' (nI (k + 1)) ∧ s_X6_count_L15 r2 σ (nI j) acc (nI k) = r2 σ (nI j) acc' (nI (k + 1)) := by
  have hS := G.1
  have g1 := G.2.2.1
  have h10 := G.2.2.2.1
  have h4 := G.2.2.2.2.1
  obtain ⟨d, b', a1, a2, a3, a4, a5, a6, a7, a8, a9, a10, a11, a12⟩ := G.2.2.2.2.2.1 k hk
  have ck : (nI k).toNatClampNeg = k := z_cl (n := k) (by omega)
  have ok : ¬ q_oob (nI k) 150 := o_in (k := k) (n := 150) (by omega) (by decide)
  have n10 : ¬ (1 : Int32) = 0 := by decide
  have l1 : ¬ (nI S ≤ nI k) := nI_ge hk (by omega)
  have l2 : ¬ ((150 : Int32) ≤ nI k) := nI_ge (b := 150) (by omega) (by decide)
  have acc0 : acc + 0 = acc := by simp
  unfold s_X2_total_L4 s_X6_count_L15
  rw [h10, h4, if_neg l1, if_neg l1, if_neg l2, if_neg (show ¬ σ 26 1 = 0 by rw [g1]; decide), if_neg ok]
  have e30 : σ 30 (nI k).toNatClampNeg = nI d := by rw [ck]; exact a5
  unfold f_X2_counts f_X6_count_J50
  match j, hj with
  | 0, _ =>
    refine ⟨acc + 1, ?_, ?_⟩
    · rw [if_pos (show nI 0 = (0 : Int32) from rfl), b_some, if_neg n10, l_eq, l_eq, nI_1]
    · have e : ∀ y, f_X6_count_J55 r2 σ (nI 0) acc (nI k) y = r2 σ (nI 0) (acc + 1) (nI (k + 1)) := by
        intro y
        unfold f_X6_count_J55
        rw [if_pos (show nI 0 = (0 : Int32) from rfl), l_eq, l_eq, nI_1]
      rw [e, e]
      by_cases x : σ 30 (nI k).toNatClampNeg = 0
      · rw [if_pos x]
      · rw [if_neg x, if_neg ok]
        by_cases x' : σ 30 (nI k).toNatClampNeg = 6
        · rw [if_pos x']
        · rw [if_neg x']
  | 1, _ =>
    have e6 : f_X5_at 6 150 σ (nI k) = some (σ, σ 6 k) := r_at (a := 6) (n := 150) σ (show k < 150 by omega) (by decide)
    have both : ∀ v, (∀ y, f_X6_count_J55 r2 σ (nI 1) acc (nI k) y = r2 σ (nI 1) v (nI (k + 1))) → (if σ 30 (nI k).toNatClampNeg = 0 then f_X6_count_J55 r2 σ (nI 1) acc (nI k) 1 else if q_oob (nI k) 150 then none else if σ 30 (nI k).toNatClampNeg = 6 then f_X6_count_J55 r2 σ (nI 1) acc (nI k) 1 else f_X6_count_J55 r2 σ (nI 1) acc (nI k) 0) = r2 σ (nI 1) v (nI (k + 1)) := by
      intro v e
      rw [e, e]
      by_cases x : σ 30 (nI k).toNatClampNeg = 0
      · rw [if_pos x]
      · rw [if_neg x, if_neg ok]
        by_cases x' : σ 30 (nI k).toNatClampNeg = 6
        · rw [if_pos x']
        · rw [if_neg x']
    rcases a12 with z | z
    · refine ⟨acc, ?_, both _ ?_⟩
      · rw [if_neg (show ¬ nI 1 = (0 : Int32) by decide), if_pos (show nI 1 = (1 : Int32) from rfl), e6, b_some, z, if_neg (show ¬ (0 : Int32) = 1 by decide), b_some, if_pos rfl, l_eq, nI_1]
      · intro y
        unfold f_X6_count_J55 f_X6_count_J76
        rw [if_neg (show ¬ nI 1 = (0 : Int32) by decide), if_pos (show nI 1 = (1 : Int32) from rfl), if_neg ok, if_pos (show σ 34 (nI k).toNatClampNeg = 0 by rw [ck, a11]; exact z), if_neg (show ¬ nI 1 = (2 : Int32) by decide), l_eq, l_eq, nI_1, acc0]
    · refine ⟨acc + 1, ?_, both _ ?_⟩
      · rw [if_neg (show ¬ nI 1 = (0 : Int32) by decide), if_pos (show nI 1 = (1 : Int32) from rfl), e6, b_some, z, if_pos rfl, b_some, if_neg n10, l_eq, l_eq, nI_1]
      · intro y
        unfold f_X6_count_J55
        rw [if_neg (show ¬ nI 1 = (0 : Int32) by decide), if_pos (show nI 1 = (1 : Int32) from rfl), if_neg ok, if_neg (show ¬ σ 34 (nI k).toNatClampNeg = 0 by rw [ck, a11, z]; decide), l_eq, l_eq, nI_1]
  | 2, _ =>
    have e2 : f_X5_at 2 150 σ (nI k) = some (σ, nI d) := by rw [r_at (a := 2) (n := 150) σ (show k < 150 by omega) (by decide), a3]
    have eJ : ∀ y : Int32, f_X6_count_J55 r2 σ (nI 2) acc (nI k) y = if y = 0 then r2 σ (nI 2) acc (nI (k + 1)) else r2 σ (nI 2) (acc + 1) (nI (k + 1)) := by
      intro y
      unfold f_X6_count_J55 f_X6_count_J76
      rw [if_neg (show ¬ nI 2 = (0 : Int32) by decide), if_neg (show ¬ nI 2 = (1 : Int32) by decide), if_pos (show nI 2 = (2 : Int32) from rfl)]
      by_cases y0 : y = 0
      · rw [if_pos y0, if_pos y0, l_eq, l_eq, nI_1, acc0]
      · rw [if_neg y0, if_neg y0, l_eq, l_eq, nI_1]
    unfold f_X2_begins
    rw [if_neg (show ¬ nI 2 = (0 : Int32) by decide), if_neg (show ¬ nI 2 = (1 : Int32) by decide), e2, b_some, e30, eJ, eJ, if_neg n10, if_pos (show (0 : Int32) = 0 from rfl), if_neg ok]
    by_cases d0 : nI d = 0
    · refine ⟨acc + 1, ?_, ?_⟩
      · rw [if_pos d0, b_some, if_pos (by decide), b_some, if_neg n10, l_eq, l_eq, nI_1]
      · rw [if_pos d0]
    · by_cases d6 : nI d = 6
      · refine ⟨acc + 1, ?_, ?_⟩
        · rw [if_neg d0, if_pos d6, b_some, if_pos (by decide), b_some, if_neg n10, l_eq, l_eq, nI_1]
        · rw [if_neg d0, if_pos d6]
      · refine ⟨acc, ?_, ?_⟩
        · rw [if_neg d0, if_neg d6, b_some, if_pos (by decide), b_some, if_pos rfl, l_eq, nI_1]
        · rw [if_neg d0, if_neg d6]
  | n + 3, h => exact absurd h (by omega)
theorem k_count {σ : Sg} {S j : Nat} (G : GO σ S) (hj : j < 3) : ∀ (d k q : Nat) (acc : Int32), k + d = S → d < q → ∃ r, f_X2_total_L4 q σ (nI j) acc (nI k) = some (σ, r) ∧ f_X6_count_L15 q σ (nI j) acc (nI k) = some (σ, r) := by
  have hS := G.1
  have h10 := G.2.2.2.1
  have h4 := G.2.2.2.2.1
  intro d
  induction d with
  | zero =>
    intro k q acc hk hq
    obtain ⟨q, rfl⟩ : ∃ p, q = p + 1 := ⟨q - 1, by omega⟩
    have : k = S := by omega
    subst this
    refine ⟨acc, ?_, ?_⟩
    · show s_X2_total_L4 (f_X2_total_L4 q) σ (nI j) acc (nI k) = _
      unfold s_X2_total_L4
      rw [h10, if_pos (nI_le (Nat.le_refl _) (by omega))]
    · show s_X6_count_L15 (f_X6_count_L15 q) σ (nI j) acc (nI k) = _
      unfold s_X6_count_L15
      rw [h4, if_pos (nI_le (Nat.le_refl _) (by omega))]
  | succ d ih =>
    intro k q acc hk hq
    obtain ⟨q, rfl⟩ : ∃ p, q = p + 1 := ⟨q - 1, by omega⟩
    obtain ⟨acc', a1, a2⟩ := k_countS G (show k < S by omega) hj acc (f_X2_total_L4 q) (f_X6_count_L15 q)
    obtain ⟨r, b1, b2⟩ := ih (k + 1) q acc' (by omega) (by omega)
    exact ⟨r, a1.trans b1, a2.trans b2⟩
theorem p_count {σ : Sg} (H : RG σ) (j : Int32) : ∃ r, f_X5_count σ j = some (σ, r) ∧ f_X6_count σ j = some (σ, r) := by
  unfold f_X5_count f_X6_count f_X2_total
  rw [r_within, r_in]
  by_cases b' : ¬ (0 ≤ j ∧ j ≤ 2)
  · rw [if_neg b', b_some, b_some]
    exact ⟨-1, rfl, rfl⟩
  have b := Classical.not_not.1 b'
  rw [if_pos b, b_some, b_some, if_neg (show ¬ (1 : Int32) = 0 by decide), if_neg (show ¬ (1 : Int32) = 0 by decide)]
  rcases H with ⟨h9, h10, h1⟩ | ⟨S, G⟩
  · refine ⟨0, ?_, ?_⟩
    · show q_bnd (s_X2_total_L4 (f_X2_total_L4 999) σ j 0 0) _ = _
      unfold s_X2_total_L4
      rw [h10, if_pos (by decide), b_some]
    · show s_X6_count_L15 (f_X6_count_L15 999) σ j 0 0 = _
      unfold s_X6_count_L15
      by_cases x : σ 26 4 ≤ 0
      · rw [if_pos x]
      · rw [if_neg x, if_pos h1]
  · have l0 := z_01.1
    obtain ⟨q, hq', rfl⟩ := nI_of2 (x := j) (M := 2) (n := 2) (by decide) (by rw [z_lt]; have := (z_le _ _).1 b.1; omega) b.2
    obtain ⟨r, a1, a2⟩ := k_count G (show q < 3 by omega) S 0 1000 0 (by omega) (by have := G.1; omega)
    refine ⟨r, ?_, a2⟩
    rw [show f_X2_total_L4 1000 σ (nI q) 0 0 = some (σ, r) from a1, b_some]
/-! held within -/
def hld (a lo hi : Int32) : Int32 := if lo ≤ a then (if a ≤ hi then a else hi) else lo
theorem m_held (σ : Sg) (a lo hi : Int32) : f_X6_held σ a lo hi = some (σ, hld a lo hi) := by
  unfold f_X6_held hld
  by_cases h : lo ≤ a
  · rw [if_pos h, if_pos h]
    by_cases g : a ≤ hi
    · rw [if_pos g, if_pos g]
    · rw [if_neg g, if_neg g]
  · rw [if_neg h, if_neg h]
theorem c_held (σ : Sg) (a lo hi : Int32) (hh : lo < hi) : f_X4_held σ a lo hi = some (σ, hld a lo hi) := by
  unfold f_X4_held hld
  rw [l_eq, l_eq]
  have hh' := hh
  rw [z_lt] at hh'
  by_cases h : a < hi
  · have h' := h
    rw [z_lt] at h'
    rw [if_pos h]
    by_cases g : lo < a
    · have g' := g
      rw [z_lt] at g'
      rw [if_pos g, if_pos (by rw [z_le]; omega), if_pos (by rw [z_le]; omega)]
    · have g' := g
      rw [z_lt] at g'
      rw [if_neg g]
      by_cases e : lo ≤ a
      · have e' := e
        rw [z_le] at e'
        have : a = lo := by rw [z_eq]; omega
        rw [if_pos e, if_pos (by rw [z_le]; omega), this]
      · rw [if_neg e]
  · have h' := h
    rw [z_lt] at h'
    rw [if_neg h, if_pos hh, if_pos (by rw [z_le]; omega)]
    by_cases e : a ≤ hi
    · have e' := e
      rw [z_le] at e'
      have : a = hi := by rw [z_eq]; omega
      rw [if_pos e, this]
    · rw [if_neg e]
theorem hld_r (a lo hi : Int32) (hh : lo < hi) : lo.toInt ≤ (hld a lo hi).toInt ∧ (hld a lo hi).toInt ≤ hi.toInt := by
  rw [z_lt] at hh
  unfold hld
  by_cases h : lo ≤ a
  · rw [if_pos h]
    rw [z_le] at h
    by_cases g : a ≤ hi
    · rw [if_pos g]
      rw [z_le] at g
      omega
    · rw [if_neg g]
      omega
  · rw [if_neg h]
    omega
