theorem z_t0 {t : Nat → Int32} {len : Nat} (ht : ∀ i, i < len → 32 ≤ t i ∧ t i ≤ 126) {a : Nat} (ha : a < len) : ¬ t a < 0 ∧ 0 ≤ t a := by
  obtain ⟨c, hc1, hc2, hc⟩ := z_tape ht ha
  rw [hc]
  exact ⟨nI_pos (by omega), z_ge0 (by omega)⟩
theorem m_it {t : Nat → Int32} {len : Nat} (hl : len ≤ 30) (ht : ∀ i, i < len → 32 ≤ t i ∧ t i ≤ 126) (rec : Sg → Int32 → Int32 → Rs) {σ : Sg} {a n : Nat} {dl : Lw} (ha : a ≤ 31) (hn : n < 2) (h : TM σ t len a) (hd : DM σ dl) :
    ((z_cla t len a).2 = none → ∃ σ', s_X6_readLaws_L32 rec σ (nI n) 1 = some (σ', -1) ∧ σ' 26 28 = nI (z_cla t len a).1 ∧ F26d σ σ') ∧
    ((z_cla t len a).2 ≠ none → len ≤ z_s t len (z_cla t len a).1 → ∃ σ', s_X6_readLaws_L32 rec σ (nI n) 1 = rec σ' (nI (n + 1)) 0 ∧ DM σ' (z_ap dl (z_cla t len a).2) ∧ F26d σ σ') ∧
    ((z_cla t len a).2 ≠ none → z_s t len (z_cla t len a).1 < len → t (z_s t len (z_cla t len a).1) = 59 → n = 0 → ∃ σ', s_X6_readLaws_L32 rec σ (nI n) 1 = rec σ' (nI 1) 1 ∧ TM σ' t len (z_s t len (z_cla t len a).1 + 1) ∧ DM σ' (z_ap dl (z_cla t len a).2) ∧ F26d σ σ') ∧
    ((z_cla t len a).2 ≠ none → z_s t len (z_cla t len a).1 < len → (t (z_s t len (z_cla t len a).1) ≠ 59 ∨ n = 1) → ∃ σ', s_X6_readLaws_L32 rec σ (nI n) 1 = some (σ', -1) ∧ σ' 26 28 = nI (z_s t len (z_cla t len a).1) ∧ F26d σ σ') := by
  have b1 := z_cla_b t len a
  obtain ⟨σ1, g1, g2, g3, g4⟩ := m_clause hl ht ha h hd
  obtain ⟨σ2, e1, e2, e3⟩ := m_next hl (a := (z_cla t len a).1) (by omega) g2
  have f2 : F26d σ σ2 := fun o k h1 h2 h3 => (e3 o k h1).trans (g4 o k h1 h2 h3)
  have d2 : DM σ2 (z_ap dl (z_cla t len a).2) := DM_f (fun k => e3 41 k (by omega)) (fun k => e3 42 k (by omega)) g3
  have hS : s_X6_readLaws_L32 rec σ (nI n) 1 = if (z_cla t len a).2 = none then some (σ1, -1) else (if (if z_s t len (z_cla t len a).1 < len then t (z_s t len (z_cla t len a).1) else -1) < 0 then f_X6_readLaws_J70 rec σ2 (nI (n + 1)) (if z_s t len (z_cla t len a).1 < len then t (z_s t len (z_cla t len a).1) else -1) else if (if z_s t len (z_cla t len a).1 < len then t (z_s t len (z_cla t len a).1) else -1) = 59 then (if nI (n + 1) = 2 then some (σ2, -1) else f_X6_readLaws_J70 rec σ2 (nI (n + 1)) (if z_s t len (z_cla t len a).1 < len then t (z_s t len (z_cla t len a).1) else -1)) else some (σ2, -1)) := by
    unfold s_X6_readLaws_L32
    rw [if_neg (by decide), g1, b_some]
    by_cases q : (z_cla t len a).2 = none
    · rw [if_pos q, if_pos q, if_pos rfl]
    · rw [if_neg q, if_neg q, if_neg (by decide), l_eq, e1, b_some, nI_1]
  refine ⟨fun q => ⟨σ1, by rw [hS, if_pos q], g2.2.1, g4⟩, fun q q2 => ?_, fun q q2 q3 q4 => ?_, fun q q2 q3 => ?_⟩
  · rw [hS, if_neg q, if_neg (show ¬ z_s t len (z_cla t len a).1 < len by omega), if_pos (by decide)]
    unfold f_X6_readLaws_J70
    rw [if_pos (by decide)]
    unfold f_X6_readLaws_J79
    rw [if_pos rfl, ls_eq, e2.2.1]
    refine ⟨_, rfl, DM_f (fun k => by rw [w_at, if_neg (by omega)]) (fun k => by rw [w_at, if_neg (by omega)]) d2, fun o k h1 h2 h3 => by rw [w_at, if_neg h1]; exact f2 o k h1 h2 h3⟩
  · have z0 := z_t0 ht q2
    rw [hS, if_neg q, if_pos q2, if_neg z0.1, if_pos q3, if_neg (by rw [q4]; decide)]
    unfold f_X6_readLaws_J70
    rw [if_neg z0.1]
    unfold f_X6_readLaws_J79
    rw [if_neg (by decide), ls_eq, e2.2.1, nI_1, q4]
    refine ⟨_, rfl, TM_pl e2, DM_f (fun k => by rw [w_at, if_neg (by omega)]) (fun k => by rw [w_at, if_neg (by omega)]) d2, fun o k h1 h2 h3 => by rw [w_at, if_neg h1]; exact f2 o k h1 h2 h3⟩
  · have z0 := z_t0 ht q2
    rw [hS, if_neg q, if_pos q2, if_neg z0.1]
    refine ⟨σ2, ?_, e2.2.1, f2⟩
    by_cases q4 : t (z_s t len (z_cla t len a).1) = 59
    · rcases q3 with z | z
      · exact absurd q4 z
      · rw [if_pos q4, if_pos (by rw [z]; decide)]
    · rw [if_neg q4]
theorem m_read {σ : Sg} {t : Nat → Int32} {len : Nat} (hl : len ≤ 30) (ht : ∀ i, i < len → 32 ≤ t i ∧ t i ≤ 126) (h1 : σ 26 27 = nI len) (h2 : ∀ i, i < len → σ 43 i = t i) :
    ∃ σ' r, f_X6_readLaws σ = some (σ', r) ∧ (0 ≤ (z_rd t len).1 → r = (z_rd t len).1 ∧ DM σ' (z_rd t len).2) ∧ (¬ 0 ≤ (z_rd t len).1 → r = -1 ∧ -20 - σ' 26 28 = (z_rd t len).1) ∧ F26d σ σ' := by
  have b0 := z_sb t len 0
  have b1 := z_cla_b t len (z_s t len 0)
  have b2 := z_sb t len (z_cla t len (z_s t len 0)).1
  have b3 := z_cla_b t len (z_s t len (z_cla t len (z_s t len 0)).1 + 1)
  have b4 := z_sb t len (z_cla t len (z_s t len (z_cla t len (z_s t len 0)).1 + 1)).1
  have hT : TM (q_wr (q_wr (q_wr σ 26 28 0) 42 0 0) 42 1 0) t len 0 := ⟨by rw [w_at, if_neg (by omega), w_at, if_neg (by omega), w_at, if_neg (by omega)]; exact h1, by rw [w_at, if_neg (by omega), w_at, if_neg (by omega), w_at, if_pos ⟨rfl, rfl⟩]; rfl, fun i hi => by rw [w_at, if_neg (by omega), w_at, if_neg (by omega), w_at, if_neg (by omega)]; exact h2 i hi⟩
  have hD : DM (q_wr (q_wr (q_wr σ 26 28 0) 42 0 0) 42 1 0) z_no := by
    intro k hk
    show q_wr (q_wr (q_wr σ 26 28 0) 42 0 0) 42 1 0 42 k = 0
    have : k = 0 ∨ k = 1 := by omega
    rcases this with rfl | rfl <;> rfl
  have hF : F26d σ (q_wr (q_wr (q_wr σ 26 28 0) 42 0 0) 42 1 0) := fun o k x1 x2 x3 => by rw [w_at, if_neg (fun z => x3 z.1), w_at, if_neg (fun z => x3 z.1), w_at, if_neg x1]
  have e0 : f_X6_readLaws σ = q_bnd (f_X6_next (q_wr (q_wr (q_wr σ 26 28 0) 42 0 0) 42 1 0)) fun s4 r5 => if 0 ≤ r5 then f_X6_readLaws_L32 1000 s4 0 1 else some (s4, 0) := rfl
  generalize (q_wr (q_wr (q_wr σ 26 28 0) 42 0 0) 42 1 0) = σ0 at hT hD hF e0
  obtain ⟨σ1, g1, g2, g3⟩ := m_next hl (by omega) hT
  have d1 : DM σ1 z_no := DM_f (fun k => g3 41 k (by omega)) (fun k => g3 42 k (by omega)) hD
  have f1 : F26d σ σ1 := fun o k x1 x2 x3 => (g3 o k x1).trans (hF o k x1 x2 x3)
  rw [e0, g1, b_some]
  by_cases q1 : len ≤ z_s t len 0
  · have e : z_rd t len = (0, z_no) := by unfold z_rd; rw [if_pos q1]
    rw [if_neg (show ¬ z_s t len 0 < len by omega), if_neg (by decide), e]
    exact ⟨σ1, 0, rfl, fun _ => ⟨rfl, d1⟩, fun z => absurd (by decide) z, f1⟩
  · have q1' : z_s t len 0 < len := by omega
    rw [if_pos q1', if_pos (z_t0 ht q1').2]
    show ∃ σ' r, s_X6_readLaws_L32 (f_X6_readLaws_L32 999) σ1 (nI 0) 1 = some (σ', r) ∧ _
    obtain ⟨i1, i2, i3, i4⟩ := m_it hl ht (f_X6_readLaws_L32 999) (n := 0) (a := z_s t len 0) (by omega) (by decide) g2 d1
    have trf : ∀ {τ : Sg}, F26d σ1 τ → F26d σ τ := fun ht o k x1 x2 x3 => (ht o k x1 x2 x3).trans (f1 o k x1 x2 x3)
    by_cases q2 : (z_cla t len (z_s t len 0)).2 = none
    · have e : z_rd t len = (-20 - nI (z_cla t len (z_s t len 0)).1, z_no) := by unfold z_rd; rw [if_neg q1, if_pos q2]
      obtain ⟨σ2, a1, a2, a3⟩ := i1 q2
      rw [a1, e]
      exact ⟨σ2, -1, rfl, fun z => absurd z (z_flt _ (by omega)).2, fun _ => ⟨rfl, by rw [a2]⟩, trf a3⟩
    · by_cases q3 : len ≤ z_s t len (z_cla t len (z_s t len 0)).1
      · have e : z_rd t len = (1, z_ap z_no (z_cla t len (z_s t len 0)).2) := by unfold z_rd; rw [if_neg q1, if_neg q2, if_pos q3]
        obtain ⟨σ2, a1, a2, a3⟩ := i2 q2 q3
        rw [a1, e]
        exact ⟨σ2, 1, rfl, fun _ => ⟨rfl, a2⟩, fun z => absurd (show (0 : Int32) ≤ 1 by decide) z, trf a3⟩
      · have q3' : z_s t len (z_cla t len (z_s t len 0)).1 < len := by omega
        by_cases q4 : t (z_s t len (z_cla t len (z_s t len 0)).1) = 59
        · obtain ⟨σ2, a1, a2, a3, a4⟩ := i3 q2 q3' q4 rfl
          rw [a1]
          show ∃ σ' r, s_X6_readLaws_L32 (f_X6_readLaws_L32 998) σ2 (nI 1) 1 = some (σ', r) ∧ _
          obtain ⟨j1, j2, j3, j4⟩ := m_it hl ht (f_X6_readLaws_L32 998) (n := 1) (a := z_s t len (z_cla t len (z_s t len 0)).1 + 1) (by omega) (by decide) a2 a3
          have trg : ∀ {τ : Sg}, F26d σ2 τ → F26d σ τ := fun ht o k x1 x2 x3 => (ht o k x1 x2 x3).trans (trf a4 o k x1 x2 x3)
          by_cases q5 : (z_cla t len (z_s t len (z_cla t len (z_s t len 0)).1 + 1)).2 = none
          · have e : z_rd t len = (-20 - nI (z_cla t len (z_s t len (z_cla t len (z_s t len 0)).1 + 1)).1, z_no) := by unfold z_rd; rw [if_neg q1, if_neg q2, if_neg q3, if_pos q4, if_pos q5]
            obtain ⟨σ3, k1, k2, k3⟩ := j1 q5
            rw [k1, e]
            exact ⟨σ3, -1, rfl, fun z => absurd z (z_flt _ (by omega)).2, fun _ => ⟨rfl, by rw [k2]⟩, trg k3⟩
          · by_cases q6 : len ≤ z_s t len (z_cla t len (z_s t len (z_cla t len (z_s t len 0)).1 + 1)).1
            · have e : z_rd t len = (2, z_ap (z_ap z_no (z_cla t len (z_s t len 0)).2) (z_cla t len (z_s t len (z_cla t len (z_s t len 0)).1 + 1)).2) := by unfold z_rd; rw [if_neg q1, if_neg q2, if_neg q3, if_pos q4, if_neg q5, if_pos q6]
              obtain ⟨σ3, k1, k2, k3⟩ := j2 q5 q6
              rw [k1, e]
              exact ⟨σ3, 2, rfl, fun _ => ⟨rfl, k2⟩, fun z => absurd (show (0 : Int32) ≤ 2 by decide) z, trg k3⟩
            · have e : z_rd t len = (-20 - nI (z_s t len (z_cla t len (z_s t len (z_cla t len (z_s t len 0)).1 + 1)).1), z_no) := by unfold z_rd; rw [if_neg q1, if_neg q2, if_neg q3, if_pos q4, if_neg q5, if_neg q6]
              obtain ⟨σ3, k1, k2, k3⟩ := j4 q5 (by omega) (Or.inr rfl)
              rw [k1, e]
              exact ⟨σ3, -1, rfl, fun z => absurd z (z_flt _ (by omega)).2, fun _ => ⟨rfl, by rw [k2]⟩, trg k3⟩
        · have e : z_rd t len = (-20 - nI (z_s t len (z_cla t len (z_s t len 0)).1), z_no) := by unfold z_rd; rw [if_neg q1, if_neg q2, if_neg q3, if_neg q4]
          obtain ⟨σ2, a1, a2, a3⟩ := i4 q2 q3' (Or.inl q4)
          rw [a1, e]
          exact ⟨σ2, -1, rfl, fun z => absurd z (z_flt _ (by omega)).2, fun _ => ⟨rfl, by rw [a2]⟩, trf a3⟩
theorem m_adopt (σ : Sg) (g : Int32) : ∃ σ', f_X6_laws_L24 1000 σ g 0 = some (σ', g) ∧ (∀ k, k < 2 → σ' 39 k = σ 41 k ∧ σ' 40 k = σ 42 k) ∧ ∀ o, o ≠ 39 → o ≠ 40 → σ' o = σ o := by
  have s1 : ∀ (τ : Sg) (rec : Sg → Int32 → Int32 → Rs) (k : Nat), k < 2 → s_X6_laws_L24 rec τ g (nI k) = rec (q_wr (q_wr τ 39 k (τ 41 k)) 40 k (τ 42 k)) g (nI (k + 1)) := by
    intro τ rec k hk
    unfold s_X6_laws_L24
    rw [if_neg (show ¬ (2 : Int32) ≤ nI k from nI_ge (b := 2) hk (by omega)), if_neg (o_in hk (by decide)), if_neg (o_in hk (by decide)), ls_eq, if_neg (o_in hk (by decide)), if_neg (o_in hk (by decide)), ls_eq, l_eq, nI_1, z_cl (show k < 2147483648 by omega), w_ne _ _ _ (by decide)]
  refine ⟨q_wr (q_wr (q_wr (q_wr σ 39 0 (σ 41 0)) 40 0 (σ 42 0)) 39 1 (σ 41 1)) 40 1 (σ 42 1), ?_, ?_, ?_⟩
  · show s_X6_laws_L24 (f_X6_laws_L24 (997 + 2)) σ g (nI 0) = _
    rw [s1 σ _ 0 (by decide)]
    show s_X6_laws_L24 (f_X6_laws_L24 (997 + 1)) _ g (nI 1) = _
    rw [s1 _ _ 1 (by decide)]
    show s_X6_laws_L24 (f_X6_laws_L24 997) _ g (nI 2) = _
    unfold s_X6_laws_L24
    rw [if_pos (by decide)]
    rfl
  · intro k hk
    have : k = 0 ∨ k = 1 := by omega
    rcases this with rfl | rfl
    · exact ⟨rfl, rfl⟩
    · exact ⟨rfl, rfl⟩
  · intro o h1 h2
    rw [w_ne _ _ _ h2, w_ne _ _ _ h1, w_ne _ _ _ h2, w_ne _ _ _ h1]
theorem m_take {σ : Sg} {t : Nat → Int32} {len : Nat} {lw : Lw} (hl : len ≤ 30) (ht : ∀ i, i < len → 32 ≤ t i ∧ t i ≤ 126) (h : RLm σ t len lw) :
    ∃ σ', f_X6_laws σ = some (σ', (z_rd t len).1) ∧ RLm σ' t 0 (z_new t len lw) ∧ (∀ o, ¬ (39 ≤ o ∧ o ≤ 43) → o ≠ 26 → σ' o = σ o) ∧ ∀ k, k ≠ 27 → k ≠ 28 → σ' 26 k = σ 26 k := by
  obtain ⟨h1, h2, h3⟩ := h
  obtain ⟨σ1, r, g1, g2, g3, g4⟩ := m_read hl ht h1 h2
  have hE : f_X6_laws σ = if 0 ≤ r then f_X6_laws_L24 1000 (q_wr σ1 26 27 0) r 0 else some (q_wr σ1 26 27 0, (-20 : Int32) - σ1 26 28) := by
    unfold f_X6_laws
    rw [g1, b_some, ls_eq]
    rw [show q_wr σ1 26 27 0 26 28 = σ1 26 28 by rw [w_at, if_neg (by decide)]]
  have hf : ∀ o, ¬ (39 ≤ o ∧ o ≤ 43) → o ≠ 26 → σ1 o = σ o := fun o x1 x2 => funext fun k => g4 o k (by omega) (by omega) (by omega)
  have hf2 : ∀ k, k ≠ 28 → σ1 26 k = σ 26 k := fun k x => g4 26 k (by omega) (by omega) (by omega)
  rw [hE]
  by_cases q : 0 ≤ (z_rd t len).1
  · obtain ⟨e1, e2⟩ := g2 q
    rw [e1, if_pos q]
    obtain ⟨σ2, a1, a2, a3⟩ := m_adopt (q_wr σ1 26 27 0) (z_rd t len).1
    rw [a1]
    refine ⟨σ2, rfl, ⟨?_, fun i hi => absurd hi (Nat.not_lt_zero _), ?_⟩, fun o x1 x2 => ?_, fun k x1 x2 => ?_⟩
    · rw [a3 26 (by decide) (by decide), w_at, if_pos ⟨rfl, rfl⟩]; rfl
    · intro k hk
      have := e2 k hk
      unfold z_new
      rw [if_neg (show ¬ (z_rd t len).1 < 0 by rw [z_lt]; rw [z_le] at q; omega), (a2 k hk).1, (a2 k hk).2, w_ne _ _ _ (by decide), w_ne _ _ _ (by decide)]
      exact this
    · rw [a3 o (by omega) (by omega), w_ne _ _ _ x2]; exact hf o x1 x2
    · rw [a3 26 (by decide) (by decide), w_at, if_neg (by omega)]; exact hf2 k x2
  · obtain ⟨e1, e2⟩ := g3 q
    rw [e1, if_neg (by decide), e2]
    refine ⟨_, rfl, ⟨?_, fun i hi => absurd hi (Nat.not_lt_zero _), ?_⟩, fun o x1 x2 => ?_, fun k x1 x2 => ?_⟩
    · rw [w_at, if_pos ⟨rfl, rfl⟩]; rfl
    · intro k hk
      have := h3 k hk
      have lt : (z_rd t len).1 < 0 := by rw [z_lt]; rw [z_le] at q; have e : (0 : Int32).toInt = 0 := rfl; omega
      unfold z_new
      rw [if_pos lt, w_ne _ _ _ (by decide), w_ne _ _ _ (by decide)]
      rw [show σ1 39 k = σ 39 k from g4 39 k (by omega) (by omega) (by omega), show σ1 40 k = σ 40 k from g4 40 k (by omega) (by omega) (by omega)]
      exact this
    · rw [w_ne _ _ _ x2]; exact hf o x1 x2
    · rw [w_at, if_neg (by omega)]; exact hf2 k x2
theorem z_clav {t : Nat → Int32} {len a k v : Nat} {b : Bool} (h : (z_cla t len a).2 = some (k, v, b)) : v ≤ 99 := by
  unfold z_cla at h
  by_cases q1 : z_s t len a < len ∧ (t (z_s t len a) = 112 ∨ t (z_s t len a) = 114)
  · rw [if_pos q1] at h
    by_cases q2 : (z_dg t len 31 (z_s t len (z_s t len a + 1)) 0).1 = z_s t len (z_s t len a + 1) ∨ 99 < (z_dg t len 31 (z_s t len (z_s t len a + 1)) 0).2
    · rw [if_pos q2] at h; cases h
    · rw [if_neg q2] at h
      split at h
      · cases h
        by_cases z : 99 < (z_dg t len 31 (z_s t len (z_s t len a + 1)) 0).2
        · exact absurd (Or.inr z) q2
        · omega
      · cases h
  · rw [if_neg q1] at h; cases h
theorem z_apv {dl : Lw} {c : Option (Nat × Nat × Bool)} (h1 : ∀ k v b, dl k = some (v, b) → v ≤ 99) (h2 : ∀ k v b, c = some (k, v, b) → v ≤ 99) : ∀ k v b, z_ap dl c k = some (v, b) → v ≤ 99 := by
  intro k v b h
  cases c with
  | none => exact h1 k v b h
  | some x =>
    obtain ⟨k0, v0, b0⟩ := x
    simp only [z_ap] at h
    by_cases e : k = k0
    · rw [if_pos e] at h; cases h; exact h2 k0 v b rfl
    · rw [if_neg e] at h; exact h1 k v b h
theorem z_rdv (t : Nat → Int32) (len : Nat) : ∀ k v b, (z_rd t len).2 k = some (v, b) → v ≤ 99 := by
  have no : ∀ k v b, z_no k = some (v, b) → v ≤ 99 := fun k v b h => by cases h
  unfold z_rd
  split
  · exact no
  · split
    · exact no
    · split
      · exact z_apv no (fun k v b h => z_clav h)
      · split
        · split
          · exact no
          · split
            · exact z_apv (z_apv no (fun k v b h => z_clav h)) (fun k v b h => z_clav h)
            · exact no
        · exact no
theorem p_laws {σ : Sg} (h : RLw σ) : ∃ σ1 σ2 r, f_X5_laws σ = some (σ1, r) ∧ (∀ o, ¬ (15 ≤ o ∧ o ≤ 20) → σ1 o = σ o) ∧ f_X6_laws σ1 = some (σ2, r) ∧ (∀ o, ¬ (39 ≤ o ∧ o ≤ 43) → o ≠ 26 → σ2 o = σ1 o) ∧ (∀ k, k ≠ 27 → k ≠ 28 → σ2 26 k = σ1 26 k) ∧ RLw σ2 := by
  obtain ⟨t, len, lw, a, b, c⟩ := h
  obtain ⟨σ1, g1, g2, g3⟩ := c_take c.1 c.2.1 a
  have b1 : RLm σ1 t len lw := ⟨by rw [g3 26 (by omega)]; exact b.1, by rw [g3 43 (by omega)]; exact b.2.1, by rw [g3 39 (by omega), g3 40 (by omega)]; exact b.2.2⟩
  obtain ⟨σ2, f1, f2, f3, f4⟩ := m_take c.1 c.2.1 b1
  refine ⟨σ1, σ2, _, g1, g3, f1, f3, f4, t, 0, z_new t len lw, ?_, f2, by decide, fun i hi => absurd hi (Nat.not_lt_zero _), ?_⟩
  · exact ⟨by rw [f3 15 (by omega) (by omega)]; exact g2.1, fun i hi => absurd hi (Nat.not_lt_zero _), by rw [f3 17 (by omega) (by omega), f3 18 (by omega) (by omega)]; exact g2.2.2⟩
  · intro k v bb hk
    unfold z_new at hk
    split at hk
    · exact c.2.2 k v bb hk
    · exact z_rdv t len k v bb hk
/-- what the laws say of a wrong stroke: the letter, none where nothing is done -/
def z_say (lw : Lw) (k behind : Nat) : Option Bool := match lw k with
  | none => none
  | some (v, b) => if behind ≤ v then some b else none
theorem c_letter {σ : Sg} {t : Nat → Int32} {len : Nat} {lw : Lw} (h : RLc σ t len lw) (hb : RLb t len lw) (kind : Int32) {m : Nat} (hm : m < 1000) : f_X0_letterFor σ kind (nI m) = some (σ, match z_say lw (if kind = 0 then 0 else 1) m with
    | none => -4
    | some b => z_let b) := by
  have J : ∀ k, k < 2 → f_X0_letterFor_J9 σ (nI m) (nI k) = some (σ, match z_say lw k m with
    | none => -4
    | some b => z_let b) := by
    intro k hk
    have h3 := h.2.2 k hk
    unfold f_X0_letterFor_J9
    rw [r_at (a := 17) (n := 2) σ hk (by decide), b_some]
    unfold z_say
    cases hx : lw k with
    | none =>
      rw [hx] at h3
      dsimp only at h3 ⊢
      by_cases q : σ 17 k < nI m
      · rw [if_pos q]
      · rw [if_neg q, r_at (a := 18) (n := 2) σ hk (by decide), b_some, h3]
    | some x =>
      obtain ⟨v, b⟩ := x
      rw [hx] at h3
      dsimp only at h3 ⊢
      have hv := hb.2.2 k v b hx
      rw [h3.1]
      by_cases q : m ≤ v
      · rw [if_neg (nI_nlt q (by omega)), r_at (a := 18) (n := 2) σ hk (by decide), b_some, h3.2, if_pos q]
      · rw [if_pos (nI_lt (by omega) (by omega)), if_neg q]
  unfold f_X0_letterFor
  by_cases q : kind = 0
  · rw [if_pos q, if_pos q]; exact J 0 (by decide)
  · rw [if_neg q, if_neg q]; exact J 1 (by decide)
