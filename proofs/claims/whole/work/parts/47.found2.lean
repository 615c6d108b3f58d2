theorem k_stop {σ : Sg} {S k c : Nat} (G : GO σ S) (hk : k < S) (hc : c < 2) (hw : σ 34 k = 1) {v : Nat} (h39 : σ 39 c = nI v) (h40 : σ 40 c = 78) (hm : S - 1 - k ≤ v) (hv : v ≤ 99) : ∃ σ1 σ2, f_X2_stopTurn σ (nI k) = some (σ1, 2) ∧ Fc σ σ1 ∧ f_X6_found_J24 σ1 (nI k) (nI c) = some (σ2, 2) ∧ Fr σ1 σ2 ∧ RG σ2 := by
  have hS := G.1
  have h9 := G.2.1
  have g1 := G.2.2.1
  have h10 := G.2.2.2.1
  have h4 := G.2.2.2.2.1
  have hvC := G.2.2.2.2.2.2.2.2.2.2.2
  have hP := GO_P G
  have hV := rp_V hP S (Nat.le_refl _)
  have ck : (nI k).toNatClampNeg = k := z_cl (n := k) (by omega)
  have cc : (nI c).toNatClampNeg = c := z_cl (n := c) (by omega)
  have cS : (nI S).toNatClampNeg = S := z_cl (n := S) (by omega)
  have ok : ¬ q_oob (nI k) 150 := o_in (k := k) (n := 150) (by omega) (by decide)
  have oS : ¬ q_oob (nI S) 151 := o_in (k := S) (n := 151) (by omega) (by decide)
  have oc : ¬ q_oob (nI c) 2 := o_in (k := c) (n := 2) hc (by decide)
  /- the reference, from any state that kept its cells -/
  have ref : ∀ σ1, Fc σ σ1 → ∃ τ w, f_X6_found_J24 σ1 (nI k) (nI c) = some (q_wr τ 36 S w, 2) ∧ (∀ o, o ≠ 26 → o ≠ 34 → o ≠ 37 → o ≠ 38 → τ o = σ1 o) ∧ (∀ i, i < 14 ∨ 21 < i → τ 26 i = σ1 26 i) ∧ (∀ i, τ 34 i = if i = k then 0 else σ 34 i) ∧ w = if σ 36 S = 0 then (if rp σ S 7 = -4 then 0 else 1) else 1 := by
    intro σ1 F
    obtain ⟨τ, t1, t2, t3⟩ := m_goToE (σ := q_wr σ1 34 k 0) G ⟨by rw [w_ne _ _ _ (by decide)]; exact F 29 (by decide), by rw [w_ne _ _ _ (by decide)]; exact F 30 (by decide), by rw [w_ne _ _ _ (by decide)]; exact F 31 (by decide), by rw [w_ne _ _ _ (by decide)]; exact F 35 (by decide), by rw [w_ne _ _ _ (by decide)]; exact F 36 (by decide)⟩ (Nat.le_refl S)
    have e26 : σ1 26 = σ 26 := F 26 (by decide)
    have t26 : ∀ i, i < 14 ∨ 21 < i → τ 26 i = σ1 26 i := fun i hi => by rw [t3.2 i hi, w_ne _ _ _ (by decide)]
    have t4 : τ 26 4 = nI S := by rw [t26 4 (by decide), e26]; exact h4
    have t36 : τ 36 S = σ 36 S := by rw [t3.1 36 (by decide) (by decide) (by decide), w_ne _ _ _ (by decide), F 36 (by decide)]
    refine ⟨τ, if σ 36 S = 0 then (if rp σ S 7 = -4 then 0 else 1) else 1, ?_, fun o x1 x2 x3 x4 => by rw [t3.1 o x1 x3 x4, w_ne _ _ _ x2], t26, fun i => ?_, rfl⟩
    · unfold f_X6_found_J24
      rw [if_neg ok, if_neg (show ¬ σ1 34 (nI k).toNatClampNeg = 0 by rw [ck, F 34 (by decide), hw]; decide), if_neg oc, if_neg (show ¬ σ1 40 (nI c).toNatClampNeg = 0 by rw [cc, F 40 (by decide), h40]; decide), if_neg oc, if_pos (show σ1 26 4 - 1 - nI k ≤ σ1 39 (nI c).toNatClampNeg by rw [cc, e26, h4, F 39 (by decide), h39, z_behind hS hk]; exact nI_le hm (by omega)), if_neg ok, ls_eq, if_neg oc]
      rw [if_neg (show ¬ q_wr σ1 34 (nI k).toNatClampNeg 0 40 (nI c).toNatClampNeg = 82 by rw [w_ne _ _ _ (by decide), cc, F 40 (by decide), h40]; decide), show f_X6_goTo (q_wr σ1 34 (nI k).toNatClampNeg 0) (q_wr σ1 34 (nI k).toNatClampNeg 0 26 4) = some (τ, 0) by rw [ck, w_ne _ _ _ (by decide), e26, h4]; exact t1, b_some, t4, if_neg oS]
      by_cases e : σ 36 S = 0
      · rw [if_pos (show τ 36 (nI S).toNatClampNeg = 0 by rw [cS, t36]; exact e), if_pos e, t2.2.2.1]
        by_cases a7 : rp σ S 7 = -4
        · rw [if_pos (show rp σ S 7 < 0 by rw [a7]; decide), if_neg oS, ls_eq, cS, if_pos a7]
        · obtain ⟨x, x4, ex⟩ := hV.1.resolve_left a7
          rw [if_neg (show ¬ rp σ S 7 < 0 by rw [ex]; exact nb_neg x4), if_neg oS, ls_eq, cS, if_neg a7]
      · rw [if_neg (show ¬ τ 36 (nI S).toNatClampNeg = 0 by rw [cS, t36]; exact e), if_neg oS, ls_eq, cS, if_neg e]
    · rw [t3.1 34 (by decide) (by decide) (by decide), w_at, F 34 (by decide)]
      simp
  have s6 : f_X5_set 6 150 σ (nI k) 0 = some (q_wr σ 6 k 0, 0) := r_set (a := 6) (n := 150) σ _ (show k < 150 by omega) (by decide)
  by_cases a7 : rp σ S 7 = -4
  · have F : Fc σ (q_wr σ 6 k 0) := fun o ho => w_ne _ _ _ (by omega)
    obtain ⟨τ, w, t1, t2, t3, t4, t5⟩ := ref _ F
    have e97 : q_wr σ 6 k 0 9 3 = -4 := by
      rw [w_ne _ _ _ (by decide)]
      have : vC 9 σ 7 = -4 := by rw [hvC]; exact a7
      exact this
    rw [if_pos a7] at t5
    have U : ∀ o, o ≠ 26 → o ≠ 34 → o ≠ 36 → o ≠ 37 → o ≠ 38 → o ≠ 6 → q_wr τ 36 S w o = σ o := fun o x1 x2 x3 x4 x5 x6 => by rw [w_ne _ _ _ x3, t2 o x1 x2 x4 x5, w_ne _ _ _ x6]
    have u36 : ∀ i, i ≠ S → q_wr τ 36 S w 36 i = σ 36 i := fun i hi => by rw [w_at, if_neg (fun z => hi z.2), t2 36 (by decide) (by decide) (by decide) (by decide), w_ne _ _ _ (by decide)]
    have u36S : q_wr τ 36 S w 36 S = σ 36 S := by
      rw [w_at, if_pos ⟨rfl, rfl⟩, t5]
      obtain ⟨r, -, -, h | h | ⟨_, -, -, -, h⟩⟩ := G.2.2.2.2.2.2.1 S (Nat.le_refl _)
      · rw [if_pos h.2.1]; exact h.2.1.symm
      · rw [if_neg (by rw [h.2.1]; decide)]; exact h.2.1.symm
      · rcases h with h | h
        · rw [if_pos h]; exact h.symm
        · rw [if_neg (by rw [h]; decide)]; exact h.symm
    have v36 : ∀ i, q_wr τ 36 S w 36 i = σ 36 i := fun i => by
      by_cases e : i = S
      · rw [e]; exact u36S
      · exact u36 i e
    have x6 : ∀ i, q_wr τ 36 S w 6 i = if i = k then 0 else σ 6 i := fun i => by
      rw [w_ne _ _ _ (by decide), t2 6 (by decide) (by decide) (by decide) (by decide), w_at]
      simp
    have x34 : ∀ i, q_wr τ 36 S w 34 i = if i = k then 0 else σ 34 i := fun i => by
      rw [w_ne _ _ _ (by decide)]
      exact t4 i
    have x26 : ∀ i, i < 14 ∨ 21 < i → q_wr τ 36 S w 26 i = σ 26 i := fun i hi => by
      rw [w_ne _ _ _ (by decide), t3 i hi, w_ne _ _ _ (by decide)]
    have RP : ∀ n, rp (q_wr τ 36 S w) n = rp σ n := fun n => rp_c (by rw [U 1 (by decide) (by decide) (by decide) (by decide) (by decide) (by decide)]) (by rw [U 1 (by decide) (by decide) (by decide) (by decide) (by decide) (by decide)]) n (fun i _ => by rw [U 2 (by decide) (by decide) (by decide) (by decide) (by decide) (by decide)]) (fun i _ => by rw [U 3 (by decide) (by decide) (by decide) (by decide) (by decide) (by decide)]) (fun i _ => by rw [U 7 (by decide) (by decide) (by decide) (by decide) (by decide) (by decide)])
    refine ⟨_, _, ?_, F, t1, ⟨fun o y1 y2 => ?_, fun i hi => ?_⟩, Or.inr ⟨S, hS, ?_, ?_, ?_, ?_, fun i hi => ?_, fun i hi => ?_, fun i hi hi' => ?_, ?_, ?_, ?_, ?_⟩⟩
    · unfold f_X2_stopTurn f_X3_inPlay
      rw [s6, b_some, b_some, if_pos e97]
    · rw [w_ne _ _ _ (by omega), t2 o y1 (by omega) (by omega) (by omega)]
    · rw [w_ne _ _ _ (by decide), t3 i (by omega)]
    · rw [U 1 (by decide) (by decide) (by decide) (by decide) (by decide) (by decide)]; exact h9
    · rw [x26 1 (by decide)]; exact g1
    · rw [U 1 (by decide) (by decide) (by decide) (by decide) (by decide) (by decide)]; exact h10
    · rw [x26 4 (by decide)]; exact h4
    · have g := G.2.2.2.2.2.1 i hi
      unfold GS at g ⊢
      rw [RP, x6, x34, U 2 (by decide) (by decide) (by decide) (by decide) (by decide) (by decide), U 3 (by decide) (by decide) (by decide) (by decide) (by decide) (by decide), U 4 (by decide) (by decide) (by decide) (by decide) (by decide) (by decide), U 5 (by decide) (by decide) (by decide) (by decide) (by decide) (by decide), U 30 (by decide) (by decide) (by decide) (by decide) (by decide) (by decide), U 31 (by decide) (by decide) (by decide) (by decide) (by decide) (by decide), U 32 (by decide) (by decide) (by decide) (by decide) (by decide) (by decide), U 33 (by decide) (by decide) (by decide) (by decide) (by decide) (by decide)]
      obtain ⟨d, b, b1, b2, b3, b4, b5, b6, b7, b8, b9, b10, b11, b12⟩ := g
      refine ⟨d, b, b1, b2, b3, b4, b5, b6, b7, b8, b9, b10, ?_, ?_⟩
      · by_cases e : i = k
        · rw [if_pos e, if_pos e]
        · rw [if_neg e, if_neg e]; exact b11
      · by_cases e : i = k
        · rw [if_pos e]; exact Or.inl rfl
        · rw [if_neg e]; exact b12
    · have g := G.2.2.2.2.2.2.1 i hi
      unfold GR at g ⊢
      rw [v36, U 7 (by decide) (by decide) (by decide) (by decide) (by decide) (by decide), U 35 (by decide) (by decide) (by decide) (by decide) (by decide) (by decide)]
      exact g
    · have g := G.2.2.2.2.2.2.2.1 i hi hi'
      unfold GN at g ⊢
      rw [v36, U 35 (by decide) (by decide) (by decide) (by decide) (by decide) (by decide)]
      exact g
    · rw [U 29 (by decide) (by decide) (by decide) (by decide) (by decide) (by decide), U 1 (by decide) (by decide) (by decide) (by decide) (by decide) (by decide)]
      exact G.2.2.2.2.2.2.2.2.1
    · rw [U 29 (by decide) (by decide) (by decide) (by decide) (by decide) (by decide), U 1 (by decide) (by decide) (by decide) (by decide) (by decide) (by decide)]
      exact G.2.2.2.2.2.2.2.2.2.1
    · rw [U 8 (by decide) (by decide) (by decide) (by decide) (by decide) (by decide), U 28 (by decide) (by decide) (by decide) (by decide) (by decide) (by decide)]
      exact G.2.2.2.2.2.2.2.2.2.2.1
    · rw [vC_c (o := 9) (σ := σ) (U 9 (by decide) (by decide) (by decide) (by decide) (by decide) (by decide)) (U 10 (by decide) (by decide) (by decide) (by decide) (by decide) (by decide)) (U 11 (by decide) (by decide) (by decide) (by decide) (by decide) (by decide)), RP]
      exact hvC
  · /- a ball in play: no ruling stands yet -/
    have r0 : σ 7 S = nI 0 ∧ σ 36 S = 0 ∧ σ 35 S = -1 := by
      obtain ⟨r, r4, er, h | h | ⟨s, s2, h, -, -⟩⟩ := G.2.2.2.2.2.2.1 S (Nat.le_refl _)
      · exact ⟨by rw [er, h.1], h.2.1, h.2.2⟩
      · exfalso
        apply a7
        rw [rq_p, er, z_cl (n := r) (by omega), h.1]
        exact pEnd_7 _
      · exfalso
        apply a7
        rw [rq_p, er, z_cl (n := r) (by omega), h]
        rfl
    have e97 : ¬ q_wr σ 6 k 0 9 3 = -4 := by
      rw [w_ne _ _ _ (by decide)]
      have : ¬ vC 9 σ 7 = -4 := by rw [hvC]; exact a7
      exact this
    have vρ : vC 9 (q_wr (q_wr σ 6 k 0) 7 S 1) = rp σ S := by
      rw [vC_c (o := 9) (σ := σ) (by rw [w_ne _ _ _ (by decide), w_ne _ _ _ (by decide)]) (by rw [w_ne _ _ _ (by decide), w_ne _ _ _ (by decide)]) (by rw [w_ne _ _ _ (by decide), w_ne _ _ _ (by decide)])]
      exact hvC
    obtain ⟨σ1, l1, l2, l3⟩ := c_end 9 (q_wr (q_wr σ 6 k 0) 7 S 1)
    rw [vρ] at l2
    have L : ∀ o, o ≠ 9 → o ≠ 10 → o ≠ 11 → σ1 o = q_wr (q_wr σ 6 k 0) 7 S 1 o := l3
    have M : ∀ o, o ≠ 9 → o ≠ 10 → o ≠ 11 → o ≠ 6 → o ≠ 7 → σ1 o = σ o := fun o x1 x2 x3 x4 x5 => by rw [L o x1 x2 x3, w_ne _ _ _ x5, w_ne _ _ _ x4]
    have F : Fc σ σ1 := fun o ho => M o (by omega) (by omega) (by omega) (by omega) (by omega)
    obtain ⟨τ, w, t1, t2, t3, t4, t5⟩ := ref _ F
    rw [if_pos r0.2.1, if_neg a7] at t5
    have U1 : ∀ o, o ≠ 26 → o ≠ 34 → o ≠ 36 → o ≠ 37 → o ≠ 38 → q_wr τ 36 S w o = σ1 o := fun o x1 x2 x3 x4 x5 => by rw [w_ne _ _ _ x3, t2 o x1 x2 x4 x5]
    have U : ∀ o, o ≠ 26 → o ≠ 34 → o ≠ 36 → o ≠ 37 → o ≠ 38 → o ≠ 6 → o ≠ 7 → o ≠ 9 → o ≠ 10 → o ≠ 11 → q_wr τ 36 S w o = σ o := fun o x1 x2 x3 x4 x5 x6 x7 x8 x9 x10 => by rw [U1 o x1 x2 x3 x4 x5, M o x8 x9 x10 x6 x7]
    have B : ∀ o, o ≠ 26 ∧ o ≠ 34 ∧ o ≠ 36 ∧ o ≠ 37 ∧ o ≠ 38 ∧ o ≠ 6 ∧ o ≠ 7 ∧ o ≠ 9 ∧ o ≠ 10 ∧ o ≠ 11 → q_wr τ 36 S w o = σ o := fun o h => U o h.1 h.2.1 h.2.2.1 h.2.2.2.1 h.2.2.2.2.1 h.2.2.2.2.2.1 h.2.2.2.2.2.2.1 h.2.2.2.2.2.2.2.1 h.2.2.2.2.2.2.2.2.1 h.2.2.2.2.2.2.2.2.2
    have u36 : ∀ i, q_wr τ 36 S w 36 i = if i = S then 1 else σ 36 i := fun i => by
      rw [w_at, t2 36 (by decide) (by decide) (by decide) (by decide), M 36 (by decide) (by decide) (by decide) (by decide) (by decide), t5]
      simp
    have x6 : ∀ i, q_wr τ 36 S w 6 i = if i = k then 0 else σ 6 i := fun i => by
      rw [U1 6 (by decide) (by decide) (by decide) (by decide) (by decide), L 6 (by decide) (by decide) (by decide), w_ne _ _ _ (by decide), w_at]
      simp
    have x7 : ∀ i, q_wr τ 36 S w 7 i = if i = S then 1 else σ 7 i := fun i => by
      rw [U1 7 (by decide) (by decide) (by decide) (by decide) (by decide), L 7 (by decide) (by decide) (by decide), w_at, w_ne _ _ _ (by decide)]
      simp
    have x34 : ∀ i, q_wr τ 36 S w 34 i = if i = k then 0 else σ 34 i := fun i => by
      rw [w_ne _ _ _ (by decide)]
      exact t4 i
    have x26 : ∀ i, i < 14 ∨ 21 < i → q_wr τ 36 S w 26 i = σ 26 i := fun i hi => by
      rw [w_ne _ _ _ (by decide), t3 i hi, M 26 (by decide) (by decide) (by decide) (by decide) (by decide)]
    have RP : ∀ n, n < S → rp (q_wr τ 36 S w) n = rp σ n := fun n hn => rp_c (by rw [B 1 (by decide)]) (by rw [B 1 (by decide)]) n (fun i _ => by rw [B 2 (by decide)]) (fun i _ => by rw [B 3 (by decide)]) (fun i hi => by rw [x7, if_neg (by omega)])
    have RQ : rq (q_wr τ 36 S w) S = rq σ S := by
      obtain ⟨n, rfl⟩ : ∃ n, S = n + 1 := ⟨S - 1, by omega⟩
      show pLead (rp (q_wr τ 36 (n + 1) w) n) (q_wr τ 36 (n + 1) w 2 n).toNatClampNeg (q_wr τ 36 (n + 1) w 3 n) = pLead (rp σ n) (σ 2 n).toNatClampNeg (σ 3 n)
      rw [RP n (by omega), B 2 (by decide), B 3 (by decide)]
    refine ⟨σ1, _, ?_, F, t1, ⟨fun o y1 y2 => ?_, fun i hi => ?_⟩, Or.inr ⟨S, hS, ?_, ?_, ?_, ?_, fun i hi => ?_, fun i hi => ?_, fun i hi hi' => ?_, ?_, ?_, ?_, ?_⟩⟩
    · unfold f_X2_stopTurn f_X3_inPlay
      rw [s6, b_some, b_some, if_neg e97, show q_wr σ 6 k 0 1 10 = nI S by rw [w_ne _ _ _ (by decide)]; exact h10, r_set (a := 7) (n := 151) _ _ (show S < 151 by omega) (by decide), b_some, l1, b_some]
    · rw [U1 o y1 (by omega) (by omega) (by omega) (by omega)]
    · rw [w_ne _ _ _ (by decide), t3 i (by omega)]
    · rw [B 1 (by decide)]; exact h9
    · rw [x26 1 (by decide)]; exact g1
    · rw [B 1 (by decide)]; exact h10
    · rw [x26 4 (by decide)]; exact h4
    · have g := G.2.2.2.2.2.1 i hi
      unfold GS at g ⊢
      rw [RP i hi, x6, x34, B 2 (by decide), B 3 (by decide), B 4 (by decide), B 5 (by decide), B 30 (by decide), B 31 (by decide), B 32 (by decide), B 33 (by decide)]
      obtain ⟨d, b, b1, b2, b3, b4, b5, b6, b7, b8, b9, b10, b11, b12⟩ := g
      refine ⟨d, b, b1, b2, b3, b4, b5, b6, b7, b8, b9, b10, ?_, ?_⟩
      · by_cases e : i = k
        · rw [if_pos e, if_pos e]
        · rw [if_neg e, if_neg e]; exact b11
      · by_cases e : i = k
        · rw [if_pos e]; exact Or.inl rfl
        · rw [if_neg e]; exact b12
    · have g := G.2.2.2.2.2.2.1 i hi
      unfold GR at g ⊢
      rw [u36, x7, B 35 (by decide)]
      by_cases e : i = S
      · rw [if_pos e, if_pos e]
        exact ⟨1, by decide, rfl, Or.inr (Or.inl ⟨rfl, rfl, by rw [e]; exact r0.2.2⟩)⟩
      · rw [if_neg e, if_neg e]
        exact g
    · have g := G.2.2.2.2.2.2.2.1 i hi hi'
      unfold GN at g ⊢
      rw [u36, if_neg (by omega), B 35 (by decide)]
      exact g
    · rw [B 29 (by decide), B 1 (by decide)]
      exact G.2.2.2.2.2.2.2.2.1
    · rw [B 29 (by decide), B 1 (by decide)]
      exact G.2.2.2.2.2.2.2.2.2.1
    · rw [B 8 (by decide), B 28 (by decide)]
      exact G.2.2.2.2.2.2.2.2.2.2.1
    · rw [vC_c (o := 9) (σ := σ1) (U1 9 (by decide) (by decide) (by decide) (by decide) (by decide)) (U1 10 (by decide) (by decide) (by decide) (by decide) (by decide)) (U1 11 (by decide) (by decide) (by decide) (by decide) (by decide)), l2, rq_p (q_wr τ 36 S w), RQ, x7, if_pos rfl, rq_p, r0.1]
      rfl
theorem p_found {σ : Sg} (H : RG σ) (hL : RLw σ) (i : Int32) : ∃ σ1 σ2 r, f_X5_found σ i = some (σ1, r) ∧ Fc σ σ1 ∧ f_X6_found σ1 i = some (σ2, r) ∧ Fr σ1 σ2 ∧ RG σ2 := by
  have n10 : ¬ (1 : Int32) = 0 := by decide
  have bad : Fc σ σ ∧ Fr σ σ ∧ RG σ := ⟨fun _ _ => rfl, ⟨fun _ _ _ => rfl, fun _ _ => rfl⟩, H⟩
  unfold f_X5_found f_X2_find
  rcases k_has H i with ⟨c1, c2⟩ | ⟨S, k, G, hk, rfl, c1, c2⟩
  · refine ⟨σ, σ, -1, ?_, bad.1, ?_, bad.2⟩
    · rw [c1, b_some, if_pos rfl, b_some]
    · unfold f_X6_found
      rw [c2, b_some, if_pos rfl]
  have hS := G.1
  have g1 := G.2.2.1
  have h10 := G.2.2.2.1
  have h4 := G.2.2.2.2.1
  obtain ⟨d, b, a1, a2, a3, a4, a5, a6, a7, a8, a9, a10, a11, a12⟩ := G.2.2.2.2.2.1 k hk
  have ck : (nI k).toNatClampNeg = k := z_cl (n := k) (by omega)
  have ok : ¬ q_oob (nI k) 150 := o_in (k := k) (n := 150) (by omega) (by decide)
  have eF : ∀ σ1, Fc σ σ1 → f_X6_found σ1 (nI k) = f_X6_found_J24 σ1 (nI k) (nI (if nI d = 0 then 0 else 1)) := fun σ1 F => m_foundE (by rw [F 26 (by decide)]; exact g1) (by rw [F 26 (by decide)]; exact h4) hS hk (by rw [F 30 (by decide)]; exact a5)
  rw [c1, b_some, if_neg n10, r_at (a := 6) (n := 150) σ (show k < 150 by omega) (by decide), b_some]
  rcases a12 with w | w
  · refine ⟨σ, σ, -2, ?_, bad.1, ?_, bad.2⟩
    · rw [if_pos w, b_some]
    · rw [eF σ bad.1]
      unfold f_X6_found_J24
      rw [if_neg ok, if_pos (show σ 34 (nI k).toNatClampNeg = 0 by rw [ck, a11]; exact w)]
  · have w34 : σ 34 k = 1 := by rw [a11]; exact w
    obtain ⟨t, len, lw, L1, L2, L3⟩ := hL
    have hc : (if nI d = 0 then 0 else 1) < 2 := by
      by_cases e : nI d = 0
      · rw [if_pos e]; decide
      · rw [if_neg e]; decide
    have lt := c_letter L1 L3 (nI d) (m := S - 1 - k) (by omega)
    rw [if_neg (show ¬ σ 6 k = 0 by rw [w]; decide), r_at (a := 2) (n := 150) σ (show k < 150 by omega) (by decide), b_some, a3, h10, z_behind hS hk, lt, b_some]
    generalize (if nI d = 0 then 0 else 1) = c at hc eF lt
    have h3 := L2.2.2 c hc
    have cc : (nI c).toNatClampNeg = c := z_cl (n := c) (by omega)
    have oc : ¬ q_oob (nI c) 2 := o_in (k := c) (n := 2) hc (by decide)
    have l82 : ¬ (82 : Int32) = -4 := by decide
    have l78 : ¬ (78 : Int32) = -4 := by decide
    have l788 : ¬ (78 : Int32) = 82 := by decide
    have none_ref : ∀ x : Nat × Bool, lw c = some x → ¬ S - 1 - k ≤ x.1 → f_X6_found_J24 σ (nI k) (nI c) = some (σ, -2) := by
      intro x hx hn
      obtain ⟨v, bb⟩ := x
      rw [hx] at h3
      have hv := L3.2.2 c v bb hx
      unfold f_X6_found_J24
      rw [if_neg ok, if_neg (show ¬ σ 34 (nI k).toNatClampNeg = 0 by rw [ck, w34]; decide), if_neg oc, if_neg (show ¬ σ 40 (nI c).toNatClampNeg = 0 by rw [cc, h3.2]; cases bb <;> decide), if_neg oc, if_neg (show ¬ σ 26 4 - 1 - nI k ≤ σ 39 (nI c).toNatClampNeg by rw [cc, h4, h3.1, z_behind hS hk]; exact nI_ge (by omega) (by omega))]
    cases hx : lw c with
    | none =>
      have es : z_say lw c (S - 1 - k) = none := by unfold z_say; rw [hx]
      rw [hx] at h3
      refine ⟨σ, σ, -2, ?_, bad.1, ?_, bad.2⟩
      · rw [es]
        dsimp only
        rw [if_pos rfl, b_some]
      · rw [eF σ bad.1]
        unfold f_X6_found_J24
        rw [if_neg ok, if_neg (show ¬ σ 34 (nI k).toNatClampNeg = 0 by rw [ck, w34]; decide), if_neg oc, if_pos (show σ 40 (nI c).toNatClampNeg = 0 by rw [cc]; exact h3)]
    | some x =>
      obtain ⟨v, bb⟩ := x
      have hv := L3.2.2 c v bb hx
      by_cases hn : S - 1 - k ≤ v
      · have es : z_say lw c (S - 1 - k) = some bb := by unfold z_say; rw [hx]; dsimp only; rw [if_pos hn]
        rw [hx] at h3
        rw [es]
        dsimp only
        cases bb with
        | true =>
          obtain ⟨σ1, σ2, x1, x2, x3, x4, x5⟩ := k_away G hk hc w34 h3.1 h3.2 hn hv
          refine ⟨σ1, σ2, 1, ?_, x2, ?_, x4, x5⟩
          · rw [if_neg (show ¬ z_let true = -4 from l82), if_pos (show z_let true = 82 from rfl), x1, b_some, b_some]
          · rw [eF σ1 x2]; exact x3
        | false =>
          obtain ⟨σ1, σ2, x1, x2, x3, x4, x5⟩ := k_stop G hk hc w34 h3.1 h3.2 hn hv
          refine ⟨σ1, σ2, 2, ?_, x2, ?_, x4, x5⟩
          · rw [if_neg (show ¬ z_let false = -4 from l78), if_neg (show ¬ z_let false = 82 from l788), x1, b_some, b_some]
          · rw [eF σ1 x2]; exact x3
      · have es : z_say lw c (S - 1 - k) = none := by unfold z_say; rw [hx]; dsimp only; rw [if_neg hn]
        refine ⟨σ, σ, -2, ?_, bad.1, ?_, bad.2⟩
        · rw [es]
          dsimp only
          rw [if_pos rfl, b_some]
        · rw [eF σ bad.1]; exact none_ref _ hx hn
