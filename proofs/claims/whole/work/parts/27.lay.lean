/-! lawns, lay, hour, clear -/
def RH (σ : Sg) : Prop := ∃ h, RHc σ h ∧ RHm σ h ∧ RHb h ∧ σ 26 31 = σ 23 2 ∧ 1 ≤ (σ 23 2).toInt
theorem RH_c {σ τ : Sg} (h1 : τ 25 = σ 25) (h2 : τ 45 = σ 45) (h3 : τ 23 2 = σ 23 2) (h4 : τ 26 31 = σ 26 31) (h : RH σ) : RH τ := by
  obtain ⟨h, a, b, c, d, e⟩ := h
  exact ⟨h, fun m hm => by rw [h1]; exact a m hm, fun m hm => by rw [h2]; exact b m hm, c, by rw [h3, h4]; exact d, by rw [h3]; exact e⟩
theorem p_lawns {σ : Sg} (h : RH σ) (n : Int32) : ∃ σ1 σ2 r, f_X5_lawns σ n = some (σ1, r) ∧ (∀ o k, ¬ (o = 23 ∧ k = 2) → σ1 o k = σ o k) ∧ f_X6_lawns σ1 n = some (σ2, r) ∧ (∀ o k, ¬ (o = 26 ∧ k = 31) → σ2 o k = σ1 o k) ∧ RH σ2 := by
  by_cases hn : 1 ≤ n ∧ n ≤ 4
  · obtain ⟨h, a, b, c, d, e⟩ := id h
    by_cases q : m_cn h 15 = 0
    · have q1 : nI (m_cn h 15) ≤ 0 := by rw [q]; decide
      refine ⟨q_wr σ 23 2 n, q_wr (q_wr σ 23 2 n) 26 31 n, σ 23 2, ?_, ?_, ?_, ?_, h, ?_, ?_, c, ?_, ?_⟩
      · simp only [f_X5_lawns, r_within, b_some, if_pos hn, f_X1_setLawns, c_laid a c, if_pos q1, l_eq, ls_eq]
        rfl
      · intro o k ho; rw [w_at, if_neg ho]
      · have b1 : RHm (q_wr σ 23 2 n) h := fun m hm => by rw [w_ne _ _ _ (by decide)]; exact b m hm
        have e1 : q_wr σ 23 2 n 26 31 = σ 23 2 := by rw [w_at, if_neg (by decide), d]
        simp only [f_X6_lawns, r_in, b_some, if_pos hn, m_laid b1 c, if_pos q1, l_eq, ls_eq, e1]
        rfl
      · intro o k ho; rw [w_at, if_neg ho]
      · intro m hm; rw [w_ne _ _ _ (by decide), w_ne _ _ _ (by decide)]; exact a m hm
      · intro m hm; rw [w_ne _ _ _ (by decide), w_ne _ _ _ (by decide)]; exact b m hm
      · rw [w_at, if_pos ⟨rfl, rfl⟩, w_at, if_neg (by decide), w_at, if_pos ⟨rfl, rfl⟩]
      · rw [w_at, if_neg (by decide), w_at, if_pos ⟨rfl, rfl⟩]
        have := hn.1
        rw [z_le] at this
        exact this
    · have q1 : ¬ nI (m_cn h 15) ≤ 0 := nI_nle (by omega) (by have := m_cn_le h 15; omega)
      refine ⟨σ, σ, -2, ?_, fun _ _ _ => rfl, ?_, fun _ _ _ => rfl, ⟨h, a, b, c, d, e⟩⟩
      · simp only [f_X5_lawns, r_within, b_some, if_pos hn, f_X1_setLawns, c_laid a c, if_neg q1]
        rfl
      · simp only [f_X6_lawns, r_in, b_some, if_pos hn, m_laid b c, if_neg q1]
        rfl
  · exact ⟨σ, σ, -1, by simp only [f_X5_lawns, r_within, b_some, if_neg hn]; rfl, fun _ _ _ => rfl, by simp only [f_X6_lawns, r_in, b_some, if_neg hn]; rfl, fun _ _ _ => rfl, h⟩
theorem p_hour {σ : Sg} (h : RH σ) (m : Int32) : ∃ r, f_X5_hour σ m = some (σ, r) ∧ f_X6_hour σ m = some (σ, r) := by
  by_cases hm : 0 ≤ m ∧ m ≤ 14
  · obtain ⟨k, hk, rfl⟩ := z_match hm
    obtain ⟨h, a, b, c, -⟩ := h
    refine ⟨e_c (h k), ?_, ?_⟩
    · simp only [f_X5_hour, r_isMatch, b_some, if_pos hm, f_X1_hourOf, r_at (a := 25) (n := 15) σ hk (by decide), a k hk]
      rfl
    · simp only [f_X6_hour, r_isMatchM, b_some, if_pos hm, if_neg (o_in hk (by decide)), z_cl (show k < 2147483648 by omega), b k hk]
      rw [if_neg (by decide), ← e_cm (h k) (h64 c hk)]
      by_cases q : 0 ≤ e_m (h k)
      · rw [if_pos q, if_pos q]
      · rw [if_neg q, if_neg q]
  · exact ⟨-1, by simp only [f_X5_hour, r_isMatch, b_some, if_neg hm]; rfl, by simp only [f_X6_hour, r_isMatchM, b_some, if_neg hm]; rfl⟩
theorem m_clearL : ∀ (d k q : Nat) (σ : Sg) (g : Int32), k + d = 15 → d < q → ∃ σ', f_X6_clear_L7 q σ g (nI k) = some (σ', g) ∧ (∀ o, o ≠ 45 → σ' o = σ o) ∧ ∀ i, σ' 45 i = if k ≤ i ∧ i < 15 then -1 else σ 45 i := by
  intro d
  induction d with
  | zero =>
    intro k q σ g hk hq
    obtain ⟨q, rfl⟩ : ∃ p, q = p + 1 := ⟨q - 1, by omega⟩
    have : k = 15 := by omega
    subst this
    refine ⟨σ, ?_, fun _ _ => rfl, fun i => by rw [if_neg (by omega)]⟩
    show s_X6_clear_L7 (f_X6_clear_L7 q) σ g (nI 15) = _
    unfold s_X6_clear_L7
    rw [if_pos (by decide)]
  | succ d ih =>
    intro k q σ g hk hq
    obtain ⟨q, rfl⟩ : ∃ p, q = p + 1 := ⟨q - 1, by omega⟩
    have hk2 : k < 15 := by omega
    obtain ⟨σ', g1, g2, g3⟩ := ih (k + 1) q (q_wr σ 45 k (-1)) g (by omega) (by omega)
    refine ⟨σ', ?_, fun o ho => (g2 o ho).trans (w_ne _ _ _ ho), fun i => ?_⟩
    · show s_X6_clear_L7 (f_X6_clear_L7 q) σ g (nI k) = _
      unfold s_X6_clear_L7
      rw [if_neg (show ¬ (15 : Int32) ≤ nI k from nI_ge (b := 15) (by omega) (by omega)), if_neg (o_in hk2 (by decide)), z_cl (show k < 2147483648 by omega), ls_eq, l_eq, nI_1]
      exact g1
    · rw [g3 i, w_at]
      by_cases hi : i = k
      · subst hi
        rw [if_neg (by omega), if_pos ⟨rfl, rfl⟩, if_pos (by omega)]
      · by_cases h4 : k + 1 ≤ i ∧ i < 15
        · rw [if_pos h4, if_pos (by omega)]
        · rw [if_neg h4, if_neg (by omega), if_neg (by omega)]
theorem p_clear {σ : Sg} (h : RH σ) : ∃ σ1 σ2 r, f_X5_clear σ = some (σ1, r) ∧ (∀ o, o ≠ 25 → σ1 o = σ o) ∧ f_X6_clear σ1 = some (σ2, r) ∧ (∀ o, o ≠ 45 → σ2 o = σ1 o) ∧ RH σ2 := by
  obtain ⟨h, a, b, c, d, e⟩ := h
  obtain ⟨σ1, g1, g2, g3⟩ := r_fill (a := 25) (n := 15) (by decide) (-4) σ
  have b1 : RHm σ1 h := fun m hm => by rw [g2 45 (by decide)]; exact b m hm
  obtain ⟨σ2, f1, f2, f3⟩ := m_clearL 15 0 1000 σ1 (nI (m_cn h 15)) (by decide) (by decide)
  refine ⟨σ1, σ2, nI (m_cn h 15), ?_, g2, ?_, f2, fun _ => none, ?_, ?_, ?_, ?_, ?_⟩
  · simp only [f_X5_clear, f_X1_liftAll, c_laid a c, b_some, g1]
  · simp only [f_X6_clear, m_laid b1 c, b_some]
    exact f1
  · intro m hm
    rw [f2 25 (by decide), g3 m, if_pos hm]; rfl
  · intro m hm
    rw [f3 m, if_pos ⟨Nat.zero_le _, hm⟩]; rfl
  · intro m hm k hk; cases hk
  · rw [f2 26 (by decide), f2 23 (by decide), g2 26 (by decide), g2 23 (by decide)]; exact d
  · rw [f2 23 (by decide), g2 23 (by decide)]; exact e
theorem m_from (σ : Sg) {m j s : Nat} (hm : m < 15) (hj : j < 2) (h : m_fr j m = some s) : f_X6_from σ (nI m) (nI j) = some (σ, nI s) := by
  have hj2 : j = 0 ∨ j = 1 := by omega
  have : m = 0 ∨ m = 1 ∨ m = 2 ∨ m = 3 ∨ m = 4 ∨ m = 5 ∨ m = 6 ∨ m = 7 ∨ m = 8 ∨ m = 9 ∨ m = 10 ∨ m = 11 ∨ m = 12 ∨ m = 13 ∨ m = 14 := by omega
  rcases hj2 with rfl | rfl <;> rcases this with rfl | rfl | rfl | rfl | rfl | rfl | rfl | rfl | rfl | rfl | rfl | rfl | rfl | rfl | rfl <;> cases h <;> rfl
theorem m_cn_add (h : Nat → Option Nat) (a b : Nat) : m_cn h (a + b) ≤ m_cn h a + b := by
  induction b with
  | zero => exact Nat.le_refl _
  | succ b ih => rw [← Nat.add_assoc, m_cn_s]; split <;> omega
theorem m_cn_lt {h : Nat → Option Nat} {m : Nat} (hm : m < 15) (hn : h m = none) : m_cn h 15 ≤ 14 := by
  have h1 : m_cn h (m + 1) = m_cn h m := by rw [m_cn_s, if_pos hn]; rfl
  have h2 := m_cn_le h m
  have h3 := m_cn_add h (m + 1) (14 - m)
  rw [show m + 1 + (14 - m) = 15 by omega] at h3
  omega
theorem m_cn_up {h : Nat → Option Nat} {m r : Nat} (hn : h m = none) : ∀ k, m_cn (m_up h m r) k = m_cn h k + if m < k then 1 else 0 := by
  intro k
  induction k with
  | zero => rfl
  | succ k ih =>
    rw [m_cn_s, m_cn_s, ih]
    by_cases hk : k = m
    · subst hk
      rw [m_up_eq, if_neg (by omega), if_neg (by simp), if_pos hn, if_pos (by omega)]
    · rw [m_up_ne h r hk]
      split <;> split <;> split <;> omega
theorem m_fre_top {w h : Nat → Option Nat} (hb : RHb h) (m : Nat) {L : Int32} (hL : 1 ≤ L.toInt) : m_fre w h m (m_cn h 15) L := by
  refine ⟨fun k hk e => absurd (hb k hk _ e) (Nat.lt_irrefl _), ?_⟩
  have : m_ct h (m_cn h 15) 15 = 0 := by
    unfold m_ct
    rw [List.length_eq_zero_iff, List.filter_eq_nil_iff]
    intro i hi
    have h1 := List.mem_range.mp hi
    simp only [decide_eq_true_eq]
    intro e
    exact Nat.lt_irrefl _ (hb i h1 _ e)
  rw [this, z_lt]
  have e0 : (nI 0).toInt = 0 := rfl
  omega
theorem m_find {P : Nat → Prop} {C : Nat} (hC : P C) : ∀ (d r : Nat), r + d = C → ∃ r', r ≤ r' ∧ r' ≤ C ∧ P r' ∧ ∀ i, r ≤ i → i < r' → ¬ P i := by
  intro d
  induction d with
  | zero => intro r hr; exact ⟨r, Nat.le_refl _, by omega, by rw [show r = C by omega]; exact hC, fun i h1 h2 => by omega⟩
  | succ d ih =>
    intro r hr
    by_cases h : P r
    · exact ⟨r, Nat.le_refl _, by omega, h, fun i h1 h2 => by omega⟩
    · obtain ⟨r', h1, h2, h3, h4⟩ := ih (r + 1) (by omega)
      refine ⟨r', by omega, h2, h3, fun i h5 h6 => ?_⟩
      by_cases hi : i = r
      · subst hi; exact h
      · exact h4 i (by omega) h6
theorem c_placeL {σ : Sg} {w h : Nat → Option Nat} (hT : RT σ) (a : RWc σ w) (b : RWb w) (c : RHc σ h) (d : RHb h) {m r' : Nat} (hm : m < 15) (hr : r' ≤ 14) (hf : m_fre w h m r' (σ 23 2)) : ∀ (e r q : Nat), r + e = r' → e < q → (∀ i, r ≤ i → i < r' → ¬ m_fre w h m i (σ 23 2)) → f_X1_place_L85 q σ (nI m) (nI r) = some (q_wr σ 25 m (nI r'), nI r') := by
  intro e
  induction e with
  | zero =>
    intro r q hk hq hi
    obtain ⟨q, rfl⟩ : ∃ p, q = p + 1 := ⟨q - 1, by omega⟩
    have : r = r' := by omega
    subst this
    show s_X1_place_L85 (f_X1_place_L85 q) σ (nI m) (nI r) = _
    unfold s_X1_place_L85
    rw [if_neg (show ¬ (15 : Int32) ≤ nI r from nI_ge (b := 15) (by omega) (by omega)), (c_free hT a b c d hm (by omega)).1 hf, b_some, if_neg (by decide)]
    simp only [f_X1_place_J106, r_set (a := 25) (n := 15) σ _ hm (by decide), b_some]
  | succ e ih =>
    intro r q hk hq hi
    obtain ⟨q, rfl⟩ : ∃ p, q = p + 1 := ⟨q - 1, by omega⟩
    show s_X1_place_L85 (f_X1_place_L85 q) σ (nI m) (nI r) = _
    unfold s_X1_place_L85
    rw [if_neg (show ¬ (15 : Int32) ≤ nI r from nI_ge (b := 15) (by omega) (by omega)), (c_free hT a b c d hm (by omega)).2 (hi r (Nat.le_refl _) (by omega)), b_some, if_pos rfl, l_eq, nI_1]
    exact ih (r + 1) q (by omega) (by omega) (fun i h1 h2 => hi i (by omega) h2)
theorem m_placeL {σ : Sg} {w h : Nat → Option Nat} (a : RWm σ w) (b : RWb w) (c : RHm σ h) (d : RHb h) {m r' : Nat} (hm : m < 15) (hr : r' ≤ 14) (hf : m_fre w h m r' (σ 26 31)) : ∀ (e r q : Nat), r + e = r' → e < q → (∀ i, r ≤ i → i < r' → ¬ m_fre w h m i (σ 26 31)) → f_X6_lay_L82 q σ (nI m) (nI r) = some (q_wr σ 45 m (nI r'), nI r') := by
  intro e
  induction e with
  | zero =>
    intro r q hk hq hi
    obtain ⟨q, rfl⟩ : ∃ p, q = p + 1 := ⟨q - 1, by omega⟩
    have : r = r' := by omega
    subst this
    show s_X6_lay_L82 (f_X6_lay_L82 q) σ (nI m) (nI r) = _
    unfold s_X6_lay_L82
    rw [(m_free a b c d hm (by omega)).1 hf, b_some, if_neg (by decide), if_neg (o_in hm (by decide)), z_cl (show m < 2147483648 by omega), ls_eq]
  | succ e ih =>
    intro r q hk hq hi
    obtain ⟨q, rfl⟩ : ∃ p, q = p + 1 := ⟨q - 1, by omega⟩
    show s_X6_lay_L82 (f_X6_lay_L82 q) σ (nI m) (nI r) = _
    unfold s_X6_lay_L82
    rw [(m_free a b c d hm (by omega)).2 (hi r (Nat.le_refl _) (by omega)), b_some, if_pos rfl, l_eq, nI_1]
    exact ih (r + 1) q (by omega) (by omega) (fun i h1 h2 => hi i (by omega) h2)
/-- from which hour on a match may be laid; none: not yet -/
def m_from0 (h : Nat → Option Nat) (m : Nat) : Option Nat := match m_fr 0 m, m_fr 1 m with
  | some s, some t => (match h s, h t with
    | some x, some y => some (max x y + 1)
    | _, _ => none)
  | _, _ => some 0
theorem c_place {σ : Sg} {h : Nat → Option Nat} (hT : RT σ) (c : RHc σ h) (d : RHb h) {m : Nat} (hm : m < 15) : f_X1_place σ (nI m) = if h m = none then (match m_from0 h m with
    | none => some (σ, -2)
    | some r => f_X1_place_L85 1000 σ (nI m) (nI r)) else some (σ, -2) := by
  obtain ⟨t1, t2, -, -, -, -, t7, -⟩ := m_tabs m hm
  unfold f_X1_place
  rw [r_at (a := 25) (n := 15) σ hm (by decide), b_some, c m hm]
  simp only [e_c4 (h64 d hm)]
  by_cases q0 : h m = none
  · rw [if_pos q0, if_pos q0, r_at (a := 102) (n := 15) σ hm (by decide), b_some, (hT 2 (by decide) m hm).trans t1]
    cases h0 : m_fr 0 m with
    | none =>
      rw [if_pos (show e_c none = -4 from rfl)]
      simp only [m_from0, h0]
      rfl
    | some s =>
      have hs := m_frlt hm h0
      cases h1 : m_fr 1 m with
      | none => rw [t7.mpr h1] at h0; cases h0
      | some t =>
        have ht := m_frlt hm h1
        have hs2 : s < 15 := by omega
        have ht2 : t < 15 := by omega
        rw [if_neg (show ¬ e_c (some s) = -4 from (by decide : ∀ k, k < 15 → ¬ nI k = -4) s hs2), show e_c (some s) = nI s from rfl, r_at (a := 25) (n := 15) σ hs2 (by decide), b_some, r_at (a := 103) (n := 15) σ hm (by decide), b_some, (hT 3 (by decide) m hm).trans t2, h1, show e_c (some t) = nI t from rfl, r_at (a := 25) (n := 15) σ ht2 (by decide), b_some, c s hs2, c t ht2]
        simp only [e_c4 (h64 d hs2), e_c4 (h64 d ht2), m_from0, h0, h1]
        cases hx : h s with
        | none => rw [if_pos rfl]
        | some x =>
          rw [if_neg (by simp)]
          cases hy : h t with
          | none => rw [if_pos rfl]
          | some y =>
            have bx := h64 d hs2 x hx
            have bY := h64 d ht2 y hy
            rw [if_neg (by simp), l_eq, l_eq]
            show f_X1_place_L85 1000 σ (nI m) ((if nI x < nI y then nI y else nI x) + 1) = f_X1_place_L85 1000 σ (nI m) (nI (max x y + 1))
            have : (if nI x < nI y then nI y else nI x) + 1 = nI (max x y + 1) := by
              by_cases z : x < y
              · rw [if_pos (nI_lt z (by omega)), nI_1, Nat.max_eq_right (by omega)]
              · rw [if_neg (nI_nlt (by omega) (by omega)), nI_1, Nat.max_eq_left (by omega)]
            rw [this]
  · rw [if_neg q0, if_neg q0]
theorem m_place {σ : Sg} {h : Nat → Option Nat} (c : RHm σ h) (d : RHb h) {m : Nat} (hm : m < 15) : f_X6_lay σ (nI m) = if h m = none then (match m_from0 h m with
    | none => some (σ, -2)
    | some r => f_X6_lay_L82 1000 σ (nI m) (nI r)) else some (σ, -2) := by
  have hmm : 0 ≤ nI m ∧ nI m ≤ 14 := ⟨z_ge0 (by omega), nI_le (b := 14) (by omega) (by decide)⟩
  obtain ⟨-, -, -, -, -, -, t7, -⟩ := m_tabs m hm
  have J : ∀ r, f_X6_lay_J70 σ (nI m) (nI r) = if h m = none then f_X6_lay_L82 1000 σ (nI m) (nI r) else some (σ, -2) := by
    intro r
    unfold f_X6_lay_J70
    rw [if_neg (o_in hm (by decide)), z_cl (show m < 2147483648 by omega), c m hm]
    simp only [e_m0 (h64 d hm)]
  unfold f_X6_lay
  rw [r_isMatchM, b_some, if_pos hmm, if_neg (by decide), r_isFirst σ hm, b_some]
  cases h0 : m_fr 0 m with
  | none =>
    rw [if_pos rfl, if_neg (by decide), show (0 : Int32) = nI 0 from rfl, J 0]
    simp only [m_from0, h0]
  | some s =>
    have hs := m_frlt hm h0
    cases h1 : m_fr 1 m with
    | none => rw [t7.mpr h1] at h0; cases h0
    | some t =>
      have ht := m_frlt hm h1
      have hs2 : s < 15 := by omega
      have ht2 : t < 15 := by omega
      have f0 : f_X6_from σ (nI m) 0 = _ := m_from σ hm (j := 0) (by decide) h0
      have f1 : f_X6_from σ (nI m) 1 = _ := m_from σ hm (j := 1) (by decide) h1
      rw [if_neg (show ¬ (some s = none) from fun z => by cases z), if_pos rfl, f0, b_some, if_neg (o_in hs2 (by decide)), z_cl (show s < 2147483648 by omega), l_eq, f1, b_some, if_neg (o_in ht2 (by decide)), z_cl (show t < 2147483648 by omega), l_eq, c s hs2, c t ht2]
      simp only [e_m0 (h64 d hs2), m_from0, h0, h1]
      cases hx : h s with
      | none => rw [if_pos rfl]; simp
      | some x =>
        rw [if_neg (by simp)]
        cases hy : h t with
        | none => rw [if_neg (by decide)]; simp
        | some y =>
          have bx := h64 d hs2 x hx
          have bY := h64 d ht2 y hy
          show (if 0 ≤ nI y then if nI x ≤ nI y then f_X6_lay_J69 σ (nI m) (nI y + 1) else f_X6_lay_J69 σ (nI m) (nI x + 1) else some (σ, -2)) = if h m = none then f_X6_lay_L82 1000 σ (nI m) (nI (max x y + 1)) else some (σ, -2)
          rw [if_pos (z_ge0 (n := y) (by omega))]
          by_cases z : x ≤ y
          · rw [if_pos (nI_le z (by omega)), nI_1]
            unfold f_X6_lay_J69
            rw [J, Nat.max_eq_right z]
          · rw [if_neg (nI_ge (by omega) (by omega)), nI_1]
            unfold f_X6_lay_J69
            rw [J, Nat.max_eq_left (by omega)]
theorem p_lay {σ : Sg} (hT : RT σ) (hw : RW σ) (hh : RH σ) (m : Int32) : ∃ σ1 σ2 r, f_X5_lay σ m = some (σ1, r) ∧ (∀ o, o ≠ 25 → σ1 o = σ o) ∧ f_X6_lay σ1 m = some (σ2, r) ∧ (∀ o, o ≠ 45 → σ2 o = σ1 o) ∧ RH σ2 := by
  by_cases hm : 0 ≤ m ∧ m ≤ 14
  · obtain ⟨k, hk, rfl⟩ := z_match hm
    obtain ⟨w, wa, wb, wc, wd⟩ := hw
    obtain ⟨h, a, b, c, d, e⟩ := id hh
    have hC : f_X5_lay σ (nI k) = q_bnd (f_X1_place σ (nI k)) fun s4 r5 => some (s4, r5) := by
      simp only [f_X5_lay, r_isMatch, b_some, if_pos hm]
      rfl
    have stay : f_X1_place σ (nI k) = some (σ, -2) → f_X6_lay σ (nI k) = some (σ, -2) → ∃ σ1 σ2 r, f_X5_lay σ (nI k) = some (σ1, r) ∧ (∀ o, o ≠ 25 → σ1 o = σ o) ∧ f_X6_lay σ1 (nI k) = some (σ2, r) ∧ (∀ o, o ≠ 45 → σ2 o = σ1 o) ∧ RH σ2 := fun x y => ⟨σ, σ, -2, by rw [hC, x]; rfl, fun _ _ => rfl, y, fun _ _ => rfl, hh⟩
    by_cases q0 : h k = none
    · cases hf : m_from0 h k with
      | none => exact stay (by rw [c_place hT a c hk, if_pos q0, hf]) (by rw [m_place b c hk, if_pos q0, hf])
      | some r0 =>
        have hle : r0 ≤ m_cn h 15 := by
          unfold m_from0 at hf
          cases h0 : m_fr 0 k with
          | none => rw [h0] at hf; cases hf; exact Nat.zero_le _
          | some s =>
            cases h1 : m_fr 1 k with
            | none => rw [h0, h1] at hf; cases hf; exact Nat.zero_le _
            | some t =>
              rw [h0, h1] at hf
              dsimp only at hf
              have hs := m_frlt hk h0
              have ht := m_frlt hk h1
              cases hx : h s with
              | none => rw [hx] at hf; cases hf
              | some x =>
                cases hy : h t with
                | none => rw [hx, hy] at hf; cases hf
                | some y =>
                  rw [hx, hy] at hf
                  cases hf
                  have b1 := c s (by omega) x hx
                  have b2 := c t (by omega) y hy
                  omega
        have htop := m_fre_top (w := w) c k e
        obtain ⟨r', g1, g2, g3, g4⟩ := m_find (P := fun r => m_fre w h k r (σ 23 2)) htop (m_cn h 15 - r0) r0 (by omega)
        have hc14 := m_cn_lt hk q0
        have hcl := c_placeL hT wa wc a c hk (show r' ≤ 14 by omega) g3 (r' - r0) r0 1000 (by omega) (by omega) g4
        have n25 : ∀ o, o ≠ 25 → q_wr σ 25 k (nI r') o = σ o := fun o ho => w_ne _ _ _ ho
        have wb1 : RWm (q_wr σ 25 k (nI r')) w := fun x hx => by rw [n25 44 (by decide)]; exact wb x hx
        have b1 : RHm (q_wr σ 25 k (nI r')) h := fun x hx => by rw [n25 45 (by decide)]; exact b x hx
        have hL : q_wr σ 25 k (nI r') 26 31 = σ 23 2 := by rw [n25 26 (by decide)]; exact d
        have hml := m_placeL wb1 wc b1 c hk (show r' ≤ 14 by omega) (by rw [hL]; exact g3) (r' - r0) r0 1000 (by omega) (by omega) (by rw [hL]; exact g4)
        refine ⟨q_wr σ 25 k (nI r'), q_wr (q_wr σ 25 k (nI r')) 45 k (nI r'), nI r', ?_, n25, ?_, fun o ho => w_ne _ _ _ ho, m_up h k r', ?_, ?_, ?_, ?_, ?_⟩
        · rw [hC, c_place hT a c hk, if_pos q0, hf]
          show q_bnd (f_X1_place_L85 1000 σ (nI k) (nI r0)) _ = _
          rw [hcl]; rfl
        · rw [m_place b1 c hk, if_pos q0, hf]
          exact hml
        · intro x hx
          rw [w_ne _ _ _ (by decide), w_at]
          by_cases hxk : x = k
          · subst hxk; rw [if_pos ⟨rfl, rfl⟩, m_up_eq]; rfl
          · rw [if_neg (fun z => hxk z.2), m_up_ne h r' hxk]; exact a x hx
        · intro x hx
          rw [w_at]
          by_cases hxk : x = k
          · subst hxk; rw [if_pos ⟨rfl, rfl⟩, m_up_eq]; rfl
          · rw [if_neg (fun z => hxk z.2), m_up_ne h r' hxk]; exact b1 x hx
        · intro x hx z hz
          rw [m_cn_up q0, if_pos hk]
          by_cases hxk : x = k
          · subst hxk; rw [m_up_eq] at hz; cases hz; omega
          · rw [m_up_ne h r' hxk] at hz; have := c x hx z hz; omega
        · rw [w_ne _ _ _ (by decide), w_ne _ _ _ (by decide), w_ne _ _ _ (by decide), w_ne _ _ _ (by decide)]; exact d
        · rw [w_ne _ _ _ (by decide), w_ne _ _ _ (by decide)]; exact e
    · exact stay (by rw [c_place hT a c hk, if_neg q0]) (by rw [m_place b c hk, if_neg q0])
  · exact ⟨σ, σ, -1, by simp only [f_X5_lay, r_isMatch, b_some, if_neg hm]; rfl, fun _ _ => rfl, by simp only [f_X6_lay, r_isMatchM, b_some, if_neg hm]; rfl, fun _ _ => rfl, hh⟩
