/-! what is asked about the game: told, hit, count, state -/
abbrev Fc (σ τ : Sg) : Prop := ∀ o, ¬ (1 ≤ o ∧ o ≤ 14) → τ o = σ o
abbrev Fr (σ τ : Sg) : Prop := (∀ o, o ≠ 26 → ¬ (28 ≤ o ∧ o ≤ 38) → τ o = σ o) ∧ ∀ k, 22 ≤ k → τ 26 k = σ 26 k
theorem Fr_m {σ τ : Sg} (h : Fm σ τ) : Fr σ τ := ⟨fun o a b => h.1 o a (by omega) (by omega), fun k a => h.2 k (by omega)⟩
theorem z_01 : (0 : Int32).toInt = 0 ∧ (1 : Int32).toInt = 1 := by decide
theorem k_has {σ : Sg} (H : RG σ) (i : Int32) : (f_X2_has σ i = some (σ, 0) ∧ f_X6_isStroke σ i = some (σ, 0)) ∨ ∃ S k, GO σ S ∧ k < S ∧ i = nI k ∧ f_X2_has σ i = some (σ, 1) ∧ f_X6_isStroke σ i = some (σ, 1) := by
  obtain ⟨l0, l1⟩ := z_01
  unfold f_X2_has f_X6_isStroke
  rcases H with ⟨h9, h10, h1⟩ | ⟨S, G⟩
  · left
    rw [h10, if_pos h1]
    refine ⟨?_, rfl⟩
    by_cases a : i < 0
    · rw [if_pos a]
    · rw [if_neg a, if_pos (by rw [z_le]; rw [z_lt] at a; omega)]
  · have hS := G.1
    have h1 := G.2.2.1
    have h10 := G.2.2.2.1
    have h4 := G.2.2.2.2.1
    have eS : (nI S - 1).toInt = (S : Int) - 1 := by rw [z_sub (by rw [z_nI (by omega), l1]; omega), z_nI (by omega), l1]
    rw [h10, h4, if_neg (show ¬ σ 26 1 = 0 by rw [h1]; decide), r_in, b_some]
    rcases z_idx i (n := S) (by omega) with a | a | ⟨k, hk, rfl⟩
    · left
      have n : ¬ (0 ≤ i ∧ i ≤ nI S - 1) := fun z => by have := (z_le _ _).1 z.1; rw [z_lt] at a; omega
      refine ⟨?_, ?_⟩
      · rw [if_pos a]
      · rw [if_neg n, if_pos (show (0 : Int32) = 0 from rfl)]
    · left
      have a' := a
      rw [z_le, z_nI (by omega)] at a'
      have n : ¬ (0 ≤ i ∧ i ≤ nI S - 1) := fun z => by have := (z_le _ _).1 z.2; rw [eS] at this; omega
      refine ⟨?_, ?_⟩
      · rw [if_neg (show ¬ i < 0 by rw [z_lt]; omega), if_pos a]
      · rw [if_neg n, if_pos (show (0 : Int32) = 0 from rfl)]
    · right
      have n : 0 ≤ nI k ∧ nI k ≤ nI S - 1 := by rw [z_le, z_le, eS, z_nI (by omega)]; omega
      refine ⟨S, k, G, hk, rfl, ?_, ?_⟩
      · rw [if_neg (show ¬ nI k < 0 from nI_pos (by omega)), if_neg (nI_ge hk (by omega))]
      · rw [if_pos n, if_neg (show ¬ (1 : Int32) = 0 by decide)]
theorem z_rng4 {i : Int32} (h : 0 ≤ i ∧ i ≤ 3) : ∃ k, k < 4 ∧ i = nI k := by
  obtain ⟨k, hk, e⟩ := nI_of2 (M := 3) (n := 3) (by decide) (by rw [z_lt]; have := (z_le _ _).1 h.1; omega) h.2
  exact ⟨k, by omega, e⟩
theorem p_told {σ : Sg} (H : RG σ) (i j : Int32) : ∃ r, f_X5_told σ i j = some (σ, r) ∧ f_X6_told σ i j = some (σ, r) := by
  unfold f_X5_told f_X6_told
  by_cases a : i < 0
  · rw [if_pos a, if_pos a]
    exact ⟨_, rfl, rfl⟩
  rw [if_neg a, if_neg a, r_within, r_in, b_some, b_some]
  by_cases b' : ¬ (0 ≤ j ∧ j ≤ 3)
  · rw [if_neg b', if_pos rfl, if_pos rfl]
    exact ⟨_, rfl, rfl⟩
  have b := Classical.not_not.1 b'
  rw [if_pos b, if_neg (by decide), if_neg (by decide)]
  have n10 : ¬ (1 : Int32) = 0 := by decide
  unfold f_X2_tell
  rcases k_has H i with ⟨c1, c2⟩ | ⟨S, k, G, hk, rfl, c1, c2⟩
  · refine ⟨-4, ?_, ?_⟩
    · rw [c1, b_some, if_pos rfl, b_some]
    · rw [c2, b_some, if_pos rfl]
  have hS := G.1
  obtain ⟨d, b', a1, a2, a3, a4, a5, a6, a7, a8, a9, a10, a11, a12⟩ := G.2.2.2.2.2.1 k hk
  have ck : (nI k).toNatClampNeg = k := z_cl (n := k) (by omega)
  have ok : ¬ q_oob (nI k) 150 := o_in (k := k) (n := 150) (by omega) (by decide)
  obtain ⟨q, hq, rfl⟩ := z_rng4 b
  match q, hq with
  | 0, _ =>
    refine ⟨nI d, ?_, ?_⟩
    · rw [c1, b_some, if_neg n10, if_neg (by decide), if_neg (by decide), if_pos (by decide), r_at (a := 2) (n := 150) σ (show k < 150 by omega) (by decide), b_some, b_some, a3]
    · rw [c2, b_some, if_neg n10, if_pos (by decide), if_neg ok, ck, a5]
  | 1, _ =>
    refine ⟨σ 4 k, ?_, ?_⟩
    · rw [c1, b_some, if_neg n10, if_neg (by decide), if_neg (by decide), if_neg (by decide), if_pos (by decide), r_at (a := 4) (n := 150) σ (show k < 150 by omega) (by decide), b_some, b_some]
    · rw [c2, b_some, if_neg n10, if_neg (by decide), if_pos (by decide), if_neg ok, ck, a8]
  | 2, _ =>
    refine ⟨σ 5 k, ?_, ?_⟩
    · rw [c1, b_some, if_neg n10, if_neg (by decide), if_neg (by decide), if_neg (by decide), if_neg (by decide), if_pos (by decide), r_at (a := 5) (n := 150) σ (show k < 150 by omega) (by decide), b_some, b_some]
    · rw [c2, b_some, if_neg n10, if_neg (by decide), if_neg (by decide), if_pos (by decide), if_neg ok, ck, a9]
  | 3, _ =>
    refine ⟨σ 6 k, ?_, ?_⟩
    · rw [c1, b_some, if_neg n10, if_neg (by decide), if_pos (by decide), r_at (a := 6) (n := 150) σ (show k < 150 by omega) (by decide), b_some, b_some]
    · rw [c2, b_some, if_neg n10, if_neg (by decide), if_neg (by decide), if_neg (by decide), if_neg ok]
      rcases a12 with e | e
      · rw [if_pos (show σ 34 (nI k).toNatClampNeg = 0 by rw [ck, a11]; exact e), e]
      · rw [if_neg (show ¬ σ 34 (nI k).toNatClampNeg = 0 by rw [ck, a11, e]; decide), e]
  | n + 4, h => exact absurd h (by omega)
theorem p_hit {σ : Sg} (H : RG σ) (i : Int32) : ∃ r, f_X5_hit σ i = some (σ, r) ∧ f_X6_hit σ i = some (σ, r) := by
  unfold f_X5_hit f_X6_hit f_X2_roqueted
  have n10 : ¬ (1 : Int32) = 0 := by decide
  rcases k_has H i with ⟨c1, c2⟩ | ⟨S, k, G, hk, rfl, c1, c2⟩
  · refine ⟨-1, ?_, ?_⟩
    · rw [c1, b_some, if_pos rfl, b_some]
    · rw [c2, b_some, if_pos rfl]
  have hS := G.1
  obtain ⟨d, b', a1, a2, a3, a4, a5, a6, -⟩ := G.2.2.2.2.2.1 k hk
  have ck : (nI k).toNatClampNeg = k := z_cl (n := k) (by omega)
  have ok : ¬ q_oob (nI k) 150 := o_in (k := k) (n := 150) (by omega) (by decide)
  by_cases e : nI d = 3
  · refine ⟨nI b', ?_, ?_⟩
    · rw [c1, b_some, if_neg n10, r_at (a := 2) (n := 150) σ (show k < 150 by omega) (by decide), b_some, if_pos (show σ 2 k = 3 by rw [a3]; exact e), r_at (a := 3) (n := 150) σ (show k < 150 by omega) (by decide), b_some, b_some, a4]
    · rw [c2, b_some, if_neg n10, if_neg ok, if_pos (show σ 30 (nI k).toNatClampNeg = 3 by rw [ck, a5]; exact e), if_neg ok, ck, a6]
  · refine ⟨-13, ?_, ?_⟩
    · rw [c1, b_some, if_neg n10, r_at (a := 2) (n := 150) σ (show k < 150 by omega) (by decide), b_some, if_neg (show ¬ σ 2 k = 3 by rw [a3]; exact e), b_some]
    · rw [c2, b_some, if_neg n10, if_neg ok, if_neg (show ¬ σ 30 (nI k).toNatClampNeg = 3 by rw [ck, a5]; exact e)]
theorem p_state {σ : Sg} (H : RG σ) (i j : Int32) : ∃ σ1 σ2 r, f_X5_state σ i j = some (σ1, r) ∧ Fc σ σ1 ∧ f_X6_state σ1 i j = some (σ2, r) ∧ Fr σ1 σ2 ∧ RG σ2 := by
  have l0 := z_01.1
  unfold f_X5_state f_X6_state
  rw [r_within, b_some]
  by_cases b' : ¬ (0 ≤ j ∧ j ≤ 11)
  · rw [if_neg b', if_pos rfl]
    refine ⟨σ, σ, -1, rfl, fun _ _ => rfl, ?_, ⟨fun _ _ _ => rfl, fun _ _ => rfl⟩, H⟩
    rw [r_in, b_some]
    by_cases c : σ 26 1 = 0
    · rw [if_pos c]
    rw [if_neg c]
    by_cases d : 0 ≤ i ∧ i ≤ σ 26 4
    · rw [if_pos d, if_neg (by decide), r_in, b_some, if_neg b', if_pos rfl]
    · rw [if_neg d, if_pos rfl]
  have b := Classical.not_not.1 b'
  rw [if_pos b, if_neg (by decide)]
  unfold f_X2_asOf
  have H' := H
  rcases H with ⟨h9, h10, h1⟩ | ⟨S, G⟩
  · rw [if_pos h9, b_some]
    refine ⟨σ, σ, -1, rfl, fun _ _ => rfl, ?_, ⟨fun _ _ _ => rfl, fun _ _ => rfl⟩, H'⟩
    rw [if_pos h1]
  have hS := G.1
  have g1 := G.2.2.1
  have h9 := G.2.1
  have h10 := G.2.2.2.1
  have h4 := G.2.2.2.2.1
  rw [if_neg (by rw [h9]; decide), h10]
  rcases z_idx i (n := S + 1) (by omega) with a | a | ⟨k, hk, rfl⟩
  · have n : ¬ (0 ≤ i ∧ i ≤ nI S) := fun z => by have := (z_le _ _).1 z.1; rw [z_lt] at a; omega
    rw [if_pos a, b_some]
    refine ⟨σ, σ, -1, rfl, fun _ _ => rfl, ?_, ⟨fun _ _ _ => rfl, fun _ _ => rfl⟩, H'⟩
    rw [if_neg (by rw [g1]; decide), r_in, b_some, h4, if_neg n, if_pos rfl]
  · have a' := a
    rw [z_le, z_nI (by omega)] at a'
    have n : ¬ (0 ≤ i ∧ i ≤ nI S) := fun z => by have := (z_le _ _).1 z.2; rw [z_nI (by omega)] at this; omega
    rw [if_neg (by rw [z_lt]; omega), if_neg (by rw [z_le, z_nI (by omega)]; omega), b_some]
    refine ⟨σ, σ, -1, rfl, fun _ _ => rfl, ?_, ⟨fun _ _ _ => rfl, fun _ _ => rfl⟩, H'⟩
    rw [if_neg (by rw [g1]; decide), r_in, b_some, h4, if_neg n, if_pos rfl]
  · rw [if_neg (nI_pos (by omega)), if_pos (nI_le (by omega) (by omega))]
    obtain ⟨q, hq', rfl⟩ := nI_of2 (x := j) (M := 11) (n := 11) (by decide) (by rw [z_lt]; have := (z_le _ _).1 b.1; omega) b.2
    have hq : q < 12 := by omega
    obtain ⟨σ1, a1, a2, a3⟩ := c_leadTo (o := 12) (Or.inr rfl) (show k ≤ S by omega) hS h10 (GO_P G)
    rw [a1, b_some, c_tell 12 σ1 hq, b_some, b_some, a2]
    have hc : ∀ o, o ≤ 11 ∨ 28 ≤ o ∧ o ≤ 36 → σ1 o = σ o := fun o ho => a3 o (by omega) (by omega) (by omega)
    have e26 : σ1 26 = σ 26 := a3 26 (by decide) (by decide) (by decide)
    have G1 : GO σ1 S := GO_c hc (by rw [e26]) (by rw [e26]) G
    obtain ⟨σ2, b1, b2, b3⟩ := m_goTo G1 (show k ≤ S by omega)
    refine ⟨σ1, σ2, pTell (rp σ k) q, rfl, fun o ho => a3 o (by omega) (by omega) (by omega), ?_, Fr_m b3, Or.inr ⟨S, GO_m b3 G1⟩⟩
    rw [if_neg (show ¬ σ1 26 1 = 0 by rw [e26, g1]; decide), r_in, b_some, e26, h4, if_pos (show 0 ≤ nI k ∧ nI k ≤ nI S from ⟨nI_pos' (by omega), nI_le (by omega) (by omega)⟩), if_neg (show ¬ (1 : Int32) = 0 by decide), r_in, b_some, if_pos b, if_neg (show ¬ (1 : Int32) = 0 by decide), b1, b_some]
    rw [rp_cc hc] at b2
    have V1 := rp_V (GO_P G) k (by omega)
    obtain ⟨s37, s38, s15, s16, s17, s18, sA, sB⟩ := b2
    unfold f_X6_state_J154 f_X6_state_J139
    match q, hq with
    | 0, _ =>
      rw [if_neg (by decide), if_neg (by decide), if_pos (by decide), s15]
      by_cases a7 : rp σ k 7 = -4
      · rw [a7, if_pos (by decide), (sA a7).1]
        rfl
      · obtain ⟨c, c4, ec⟩ := V1.1.resolve_left a7
        rw [ec, if_neg (nb_neg c4), sB a7]
        rfl
    | 1, _ => exact congrArg (fun z => some (σ2, z)) s15
    | 2, _ => exact congrArg (fun z => some (σ2, z)) s16
    | 3, _ => exact congrArg (fun z => some (σ2, z)) s17
    | 4, _ => exact congrArg (fun z => some (σ2, z)) s18
    | 5, _ => exact congrArg (fun z => some (σ2, z)) (s37 0 (by decide))
    | 6, _ => exact congrArg (fun z => some (σ2, z)) (s37 1 (by decide))
    | 7, _ => exact congrArg (fun z => some (σ2, z)) (s37 2 (by decide))
    | 8, _ => exact congrArg (fun z => some (σ2, z)) (s37 3 (by decide))
    | 9, _ => exact congrArg (fun z => some (σ2, z)) (s38 0 (by decide))
    | 10, _ => exact congrArg (fun z => some (σ2, z)) (s38 1 (by decide))
    | 11, _ => exact congrArg (fun z => q_bnd z fun s r => some (s, r)) (m_won s37)
    | n + 12, h => exact absurd h (by omega)
