/-! a wrong stroke is found -/
theorem one_s {s : Nat} (h : s < 2) : (3 : Int32) - nI s = nI (3 - s) := by
  match s, h with
  | 0, _ => decide
  | 1, _ => decide
  | n + 2, h => exact absurd h (by omega)
theorem k_away {σ : Sg} {S k : Nat} (G : GO σ S) (hk : k < S) : ∃ σ1, f_X2_takeAway σ (nI k) = some (σ1, 1) ∧ Fc σ σ1 ∧ GO σ1 k ∧ (∀ n, n < k → rp σ1 n = rp σ n) ∧ rp σ1 k 7 = -4 ∧ rp σ1 k 8 = 0 := by
  have hS := G.1
  have h9 := G.2.1
  have h10 := G.2.2.1
  have hP := GO_P G
  obtain ⟨d, b, a1, a2, a3, a4, a7, a10, a12⟩ := G.2.2.2.1 k hk
  obtain ⟨s, s2, es, e3⟩ : ∃ s, s < 2 ∧ σ 5 k = nI s ∧ 3 - σ 5 k = nI (3 - s) := by
    rcases a10 with e | e
    · exact ⟨0, by decide, e, by rw [e]; decide⟩
    · exact ⟨1, by decide, e, by rw [e]; decide⟩
  have m1 : ∀ o, o ≠ 7 → o ≠ 1 → q_wr (q_wr σ 7 k (nI (3 - s))) 1 10 (nI k) o = σ o := fun o x y => by rw [w_ne _ _ _ y, w_ne _ _ _ x]
  have m2 : ∀ i, q_wr (q_wr σ 7 k (nI (3 - s))) 1 10 (nI k) 7 i = if i = k then nI (3 - s) else σ 7 i := fun i => by simp [w_at]
  have m3 : ∀ i, q_wr (q_wr σ 7 k (nI (3 - s))) 1 10 (nI k) 1 i = if i = 10 then nI k else σ 1 i := fun i => by simp [w_at]
  have start : f_X2_takeAway σ (nI k) = q_bnd (f_X2_leadTo 9 (q_wr (q_wr σ 7 k (nI (3 - s))) 1 10 (nI k)) (nI k)) fun s6 _ => some (s6, 1) := by
    unfold f_X2_takeAway
    rw [r_at (a := 5) (n := 150) σ (show k < 150 by omega) (by decide), b_some, e3, r_set (a := 7) (n := 151) σ _ (show k < 151 by omega) (by decide), b_some, ls_eq, m3, if_pos rfl]
  rw [start]
  generalize q_wr (q_wr σ 7 k (nI (3 - s))) 1 10 (nI k) = ρ at *
  have RP : ∀ n, n < k → rp ρ n = rp σ n := fun n hn => rp_c (by rw [m3]; rfl) (by rw [m3]; rfl) n (fun i _ => by rw [m1 2 (by decide) (by decide)]) (fun i _ => by rw [m1 3 (by decide) (by decide)]) (fun i hi => by rw [m2, if_neg (by omega)])
  have P1 : GP ρ k := by
    refine ⟨fun j hj => ?_, fun j hj => ?_⟩
    · obtain ⟨x1, x2, x3, x4, x5, x6, x7⟩ := hP.1 j (by omega)
      exact ⟨x1, x2, x3, x4, by rw [m1 2 (by decide) (by decide)]; exact x5, by rw [m1 3 (by decide) (by decide)]; exact x6, by rw [RP j hj]; exact x7⟩
    · by_cases e : j = k
      · exact ⟨3 - s, by omega, by rw [m2, if_pos e]⟩
      · obtain ⟨x1, x2, x3⟩ := hP.2 j (by omega)
        exact ⟨x1, x2, by rw [m2, if_neg e]; exact x3⟩
  obtain ⟨σ1, l1, l2, l3⟩ := c_leadTo (o := 9) (Or.inl rfl) (Nat.le_refl k) (by omega) (by rw [m3, if_pos rfl]) P1
  have L : ∀ o, o ≠ 9 → o ≠ 10 → o ≠ 11 → σ1 o = ρ o := l3
  have F : Fc σ σ1 := fun o ho => by rw [L o (by omega) (by omega) (by omega), m1 o (by omega) (by omega)]
  have B : ∀ o, o ≠ 9 → o ≠ 10 → o ≠ 11 → o ≠ 7 → o ≠ 1 → σ1 o = σ o := fun o x5 x6 x7 x8 x9 => by rw [L o x5 x6 x7, m1 o x8 x9]
  have L1 := L 1 (by decide) (by decide) (by decide)
  have L7 := L 7 (by decide) (by decide) (by decide)
  have B2 := B 2 (by decide) (by decide) (by decide) (by decide) (by decide)
  have B3 := B 3 (by decide) (by decide) (by decide) (by decide) (by decide)
  have B5 := B 5 (by decide) (by decide) (by decide) (by decide) (by decide)
  have B6 := B 6 (by decide) (by decide) (by decide) (by decide) (by decide)
  have RQ : ∀ n, rp σ1 n = rp ρ n := fun n => rp_c (by rw [L1]) (by rw [L1]) n (fun j _ => by rw [L 2 (by decide) (by decide) (by decide)]) (fun j _ => by rw [L 3 (by decide) (by decide) (by decide)]) (fun j _ => by rw [L7])
  have R2 : ∀ n, n < k → rp σ1 n = rp σ n := fun n hn => (RQ n).trans (RP n hn)
  have stop : rp σ1 k = pStop (rq σ1 k) (nI (1 - s)) := by
    rw [rq_p, L7, m2, if_pos rfl, z_cl (n := 3 - s) (by omega)]
    match s, s2 with
    | 0, _ => rfl
    | 1, _ => rfl
    | n + 2, h => exact absurd h (by omega)
  refine ⟨σ1, by rw [l1, b_some], F, ⟨by omega, ?_, ?_, fun i hi => ?_, fun i hi => ?_, ?_, ?_⟩, R2, by rw [stop]; rfl, by rw [stop]; rfl⟩
  · rw [L1, m3, if_neg (by decide)]; exact h9
  · rw [L1, m3, if_pos rfl]
  · have g := G.2.2.2.1 i (by omega)
    unfold GS at g ⊢
    rw [R2 i hi, B2, B3, B5, B6]
    exact g
  · have g := G.2.2.2.2.1 i (by omega)
    unfold GR at g ⊢
    rw [L7, m2]
    by_cases e : i = k
    · rw [if_pos e]
      exact ⟨3 - s, by omega, rfl⟩
    · rw [if_neg e]
      exact g
  · rw [l2]
    exact (RQ k).symm
  · have f := G.2.2.2.2.2.2
    unfold FB at f ⊢
    rw [L1, m3, m3, if_neg (by decide), if_neg (by decide)]
    exact f
theorem k_stop {σ : Sg} {S k : Nat} (G : GO σ S) (hk : k < S) : ∃ σ1, f_X2_stopTurn σ (nI k) = some (σ1, 2) ∧ Fc σ σ1 ∧ GO σ1 S ∧ (∀ n, n < S → rp σ1 n = rp σ n) ∧ rp σ1 S 7 = -4 ∧ σ1 6 k = 0 ∧ σ1 2 = σ 2 := by
  have hS := G.1
  have h9 := G.2.1
  have h10 := G.2.2.1
  have hvC := G.2.2.2.2.2.1
  have hP := GO_P G
  have s6 : f_X5_set 6 150 σ (nI k) 0 = some (q_wr σ 6 k 0, 0) := r_set (a := 6) (n := 150) σ _ (show k < 150 by omega) (by decide)
  have y6 : ∀ i, q_wr σ 6 k 0 6 i = if i = k then 0 else σ 6 i := fun i => by simp [w_at]
  have g6 : ∀ (τ : Sg), (∀ i, τ 6 i = if i = k then 0 else σ 6 i) → τ 2 = σ 2 → τ 3 = σ 3 → τ 5 = σ 5 → ∀ i, i < S → rp τ i = rp σ i → GS τ i := by
    intro τ x6 e2 e3 e5 i hi hr
    have g := G.2.2.2.1 i hi
    unfold GS at g ⊢
    rw [hr, x6, e2, e3, e5]
    obtain ⟨d, b, b1, b2, b3, b4, b7, b10, b12⟩ := g
    refine ⟨d, b, b1, b2, b3, b4, b7, b10, ?_⟩
    by_cases e : i = k
    · rw [if_pos e]; exact Or.inl rfl
    · rw [if_neg e]; exact b12
  by_cases a7 : rp σ S 7 = -4
  · have N : ∀ o, o ≠ 6 → q_wr σ 6 k 0 o = σ o := fun o h => w_ne _ _ _ h
    have F : Fc σ (q_wr σ 6 k 0) := fun o ho => N o (by omega)
    have e97 : q_wr σ 6 k 0 9 3 = -4 := by
      rw [N 9 (by decide)]
      have : vC 9 σ 7 = -4 := by rw [hvC]; exact a7
      exact this
    have RP : ∀ n, rp (q_wr σ 6 k 0) n = rp σ n := fun n => rp_c (by rw [N 1 (by decide)]) (by rw [N 1 (by decide)]) n (fun i _ => by rw [N 2 (by decide)]) (fun i _ => by rw [N 3 (by decide)]) (fun i _ => by rw [N 7 (by decide)])
    refine ⟨q_wr σ 6 k 0, ?_, F, ⟨hS, ?_, ?_, fun i hi => g6 _ y6 (N 2 (by decide)) (N 3 (by decide)) (N 5 (by decide)) i hi (RP i), fun i hi => ?_, ?_, ?_⟩, fun n _ => RP n, by rw [RP]; exact a7, by rw [y6, if_pos rfl], N 2 (by decide)⟩
    · unfold f_X2_stopTurn f_X3_inPlay
      rw [s6, b_some, b_some, if_pos e97]
    · rw [N 1 (by decide)]; exact h9
    · rw [N 1 (by decide)]; exact h10
    · have g := G.2.2.2.2.1 i hi
      unfold GR at g ⊢
      rw [N 7 (by decide)]
      exact g
    · rw [vC_c (o := 9) (σ := σ) (N 9 (by decide)) (N 10 (by decide)) (N 11 (by decide)), RP]
      exact hvC
    · have f := G.2.2.2.2.2.2
      unfold FB at f ⊢
      rw [N 1 (by decide)]
      exact f
  · have r0 : σ 7 S = nI 0 := by
      obtain ⟨r, r4, er⟩ := G.2.2.2.2.1 S (Nat.le_refl _)
      have hr : rp σ S = pObey (rq σ S) r := by rw [rq_p, er, z_cl (n := r) (by omega)]
      match r, r4 with
      | 0, _ => exact er
      | 1, _ =>
        exfalso
        apply a7
        rw [hr]
        exact pEnd_7 _
      | 2, _ =>
        exfalso
        apply a7
        rw [hr]
        rfl
      | 3, _ =>
        exfalso
        apply a7
        rw [hr]
        rfl
      | n + 4, h => exact absurd h (by omega)
    have e97 : ¬ q_wr σ 6 k 0 9 3 = -4 := by
      rw [w_ne _ _ _ (by decide)]
      have : ¬ vC 9 σ 7 = -4 := by rw [hvC]; exact a7
      exact this
    have vρ : vC 9 (q_wr (q_wr σ 6 k 0) 7 S 1) = rp σ S := by
      rw [vC_c (o := 9) (σ := σ) (by rw [w_ne _ _ _ (by decide), w_ne _ _ _ (by decide)]) (by rw [w_ne _ _ _ (by decide), w_ne _ _ _ (by decide)]) (by rw [w_ne _ _ _ (by decide), w_ne _ _ _ (by decide)])]
      exact hvC
    obtain ⟨σ1, l1, l2, l3⟩ := c_end 9 (q_wr (q_wr σ 6 k 0) 7 S 1)
    rw [vρ] at l2
    have L : ∀ o, o ≠ 9 → o ≠ 10 → o ≠ 11 → σ1 o = q_wr (q_wr σ 6 k 0) 7 S 1 o := l3
    have B : ∀ o, o ≠ 6 ∧ o ≠ 7 ∧ o ≠ 9 ∧ o ≠ 10 ∧ o ≠ 11 → σ1 o = σ o := fun o h => by rw [L o h.2.2.1 h.2.2.2.1 h.2.2.2.2, w_ne _ _ _ h.2.1, w_ne _ _ _ h.1]
    have F : Fc σ σ1 := fun o ho => B o ⟨by omega, by omega, by omega, by omega, by omega⟩
    have x6 : ∀ i, σ1 6 i = if i = k then 0 else σ 6 i := fun i => by
      rw [L 6 (by decide) (by decide) (by decide), w_ne _ _ _ (by decide), w_at]
      simp
    have x7 : ∀ i, σ1 7 i = if i = S then 1 else σ 7 i := fun i => by
      rw [L 7 (by decide) (by decide) (by decide), w_at, w_ne _ _ _ (by decide)]
      simp
    have RP : ∀ n, n < S → rp σ1 n = rp σ n := fun n hn => rp_c (by rw [B 1 (by decide)]) (by rw [B 1 (by decide)]) n (fun i _ => by rw [B 2 (by decide)]) (fun i _ => by rw [B 3 (by decide)]) (fun i hi => by rw [x7, if_neg (by omega)])
    have RQ : rq σ1 S = rq σ S := by
      obtain ⟨n, rfl⟩ : ∃ n, S = n + 1 := ⟨S - 1, by omega⟩
      show pLead (rp σ1 n) (σ1 2 n).toNatClampNeg (σ1 3 n) = pLead (rp σ n) (σ 2 n).toNatClampNeg (σ 3 n)
      rw [RP n (by omega), B 2 (by decide), B 3 (by decide)]
    have R1 : rp σ1 S = pEnd (rp σ S) := by
      rw [rq_p σ1, RQ, x7, if_pos rfl, rq_p σ, r0]
      rfl
    refine ⟨σ1, ?_, F, ⟨hS, ?_, ?_, fun i hi => g6 _ x6 (B 2 (by decide)) (B 3 (by decide)) (B 5 (by decide)) i hi (RP i hi), fun i hi => ?_, ?_, ?_⟩, RP, by rw [R1]; exact pEnd_7 _, by rw [x6, if_pos rfl], B 2 (by decide)⟩
    · unfold f_X2_stopTurn f_X3_inPlay
      rw [s6, b_some, b_some, if_neg e97, show q_wr σ 6 k 0 1 10 = nI S by rw [w_ne _ _ _ (by decide)]; exact h10, r_set (a := 7) (n := 151) _ _ (show S < 151 by omega) (by decide), b_some, l1, b_some]
    · rw [B 1 (by decide)]; exact h9
    · rw [B 1 (by decide)]; exact h10
    · have g := G.2.2.2.2.1 i hi
      unfold GR at g ⊢
      rw [x7]
      by_cases e : i = S
      · rw [if_pos e]
        exact ⟨1, by decide, rfl⟩
      · rw [if_neg e]
        exact g
    · rw [l2, R1]
    · have f := G.2.2.2.2.2.2
      unfold FB at f ⊢
      rw [B 1 (by decide)]
      exact f
theorem k_letter (σ : Sg) (kind m : Int32) : ∃ r, f_X0_letterFor σ kind m = some (σ, r) := by
  have J : ∀ k, k < 2 → ∃ r, f_X0_letterFor_J9 σ m (nI k) = some (σ, r) := by
    intro k hk
    unfold f_X0_letterFor_J9
    rw [r_at (a := 17) (n := 2) σ hk (by decide), b_some]
    by_cases q : σ 17 k < m
    · rw [if_pos q]
      exact ⟨_, rfl⟩
    · rw [if_neg q, r_at (a := 18) (n := 2) σ hk (by decide), b_some]
      exact ⟨_, rfl⟩
  unfold f_X0_letterFor
  by_cases q : kind = 0
  · rw [if_pos q]; exact J 0 (by decide)
  · rw [if_neg q]; exact J 1 (by decide)
theorem k_found {σ : Sg} {S k : Nat} (G : GO σ S) (hk : k < S) : f_X5_found σ (nI k) = some (σ, -2) ∨ (σ 6 k = 1 ∧ ∃ σ1, f_X5_found σ (nI k) = some (σ1, 1) ∧ Fc σ σ1 ∧ GO σ1 k ∧ (∀ n, n < k → rp σ1 n = rp σ n) ∧ rp σ1 k 7 = -4 ∧ rp σ1 k 8 = 0) ∨ (σ 6 k = 1 ∧ ∃ σ1, f_X5_found σ (nI k) = some (σ1, 2) ∧ Fc σ σ1 ∧ GO σ1 S ∧ (∀ n, n < S → rp σ1 n = rp σ n) ∧ rp σ1 S 7 = -4 ∧ σ1 6 k = 0 ∧ σ1 2 = σ 2) := by
  have n10 : ¬ (1 : Int32) = 0 := by decide
  have hS := G.1
  have h10 := G.2.2.1
  obtain ⟨d, b, a1, a2, a3, a4, a7, a10, a12⟩ := G.2.2.2.1 k hk
  unfold f_X5_found f_X2_find
  rw [k_has G hk, b_some, if_neg n10, r_at (a := 6) (n := 150) σ (show k < 150 by omega) (by decide), b_some]
  rcases a12 with w | w
  · left
    rw [if_pos w, b_some]
  · rw [if_neg (show ¬ σ 6 k = 0 by rw [w]; decide), r_at (a := 2) (n := 150) σ (show k < 150 by omega) (by decide), b_some]
    obtain ⟨r, hr⟩ := k_letter σ (σ 2 k) (σ 1 10 - 1 - nI k)
    rw [hr, b_some]
    by_cases e : r = -4
    · left
      rw [if_pos e, b_some]
    · right
      rw [if_neg e]
      by_cases e2 : r = 82
      · left
        obtain ⟨σ1, x1, x2⟩ := k_away G hk
        exact ⟨w, σ1, by rw [if_pos e2, x1, b_some, b_some], x2⟩
      · right
        obtain ⟨σ1, x1, x2⟩ := k_stop G hk
        exact ⟨w, σ1, by rw [if_neg e2, x1, b_some, b_some], x2⟩
