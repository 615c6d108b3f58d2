/-! the game of both, and the reference's replay -/
def GS (σ : Sg) (k : Nat) : Prop := ∃ d b, d ≤ 6 ∧ b < 4 ∧ σ 2 k = nI d ∧ σ 3 k = nI b ∧ σ 30 k = nI d ∧ σ 31 k = nI b ∧ pCan (rp σ k) d b ∧ σ 32 k = σ 4 k ∧ σ 33 k = σ 5 k ∧ (σ 5 k = nI 0 ∨ σ 5 k = nI 1) ∧ σ 34 k = σ 6 k ∧ (σ 6 k = 0 ∨ σ 6 k = 1)
def GR (σ : Sg) (k : Nat) : Prop := ∃ r, r < 4 ∧ σ 7 k = nI r ∧ (r = 0 ∧ σ 36 k = 0 ∧ σ 35 k = -1 ∨ r = 1 ∧ σ 36 k = 1 ∧ σ 35 k = -1 ∨ ∃ s, s < 2 ∧ r = s + 2 ∧ σ 35 k = nI s ∧ (σ 36 k = 0 ∨ σ 36 k = 1))
def GN (σ : Sg) (k : Nat) : Prop := σ 36 k = 0 ∧ σ 35 k = -1
def GO (σ : Sg) (S : Nat) : Prop := S ≤ 150 ∧ σ 1 9 = 1 ∧ σ 26 1 = 1 ∧ σ 1 10 = nI S ∧ σ 26 4 = nI S ∧ (∀ k, k < S → GS σ k) ∧ (∀ k, k ≤ S → GR σ k) ∧ (∀ k, S < k → k < 151 → GN σ k) ∧ σ 29 0 = σ 1 11 ∧ σ 29 1 = σ 1 12 ∧ (∃ a b, a < 8 ∧ b < 8 ∧ a ≠ b ∧ σ 8 0 = nI a ∧ σ 8 1 = nI b ∧ σ 28 0 = nI a ∧ σ 28 1 = nI b) ∧ vC 9 σ = rp σ S
def RG (σ : Sg) : Prop := (σ 1 9 = 0 ∧ σ 1 10 = 0 ∧ σ 26 1 = 0) ∨ ∃ S, GO σ S
theorem GO_P {σ : Sg} {S : Nat} (h : GO σ S) : GP σ S := by
  obtain ⟨-, -, -, -, -, h1, h2, -⟩ := h
  refine ⟨fun k hk => ?_, fun k hk => ?_⟩
  · obtain ⟨d, b, a1, a2, a3, a4, -, -, a5, -⟩ := h1 k hk
    exact ⟨d, b, a1, a2, a3, a4, a5⟩
  · obtain ⟨r, a1, a2, -⟩ := h2 k hk
    exact ⟨r, a1, a2⟩
theorem rp_cc {σ τ : Sg} (h : ∀ o, o ≤ 11 ∨ 28 ≤ o ∧ o ≤ 36 → τ o = σ o) (n : Nat) : rp τ n = rp σ n :=
  rp_c (by rw [h 1 (by omega)]) (by rw [h 1 (by omega)]) n (fun i _ => by rw [h 2 (by omega)]) (fun i _ => by rw [h 3 (by omega)]) (fun i _ => by rw [h 7 (by omega)])
theorem GO_c {σ τ : Sg} (h : ∀ o, o ≤ 11 ∨ 28 ≤ o ∧ o ≤ 36 → τ o = σ o) (h1 : τ 26 1 = σ 26 1) (h4 : τ 26 4 = σ 26 4) {S : Nat} (H : GO σ S) : GO τ S := by
  unfold GO GS GR GN at *
  rw [h1, h4, h 1 (by omega), h 29 (by omega), h 8 (by omega), h 28 (by omega), h 2 (by omega), h 3 (by omega), h 4 (by omega), h 5 (by omega), h 6 (by omega), h 7 (by omega), h 30 (by omega), h 31 (by omega), h 32 (by omega), h 33 (by omega), h 34 (by omega), h 35 (by omega), h 36 (by omega), rp_cc h S, vC_c (o := 9) (h 9 (by omega)) (h 10 (by omega)) (h 11 (by omega))]
  simp only [rp_cc h]
  exact H
theorem RG_c {σ τ : Sg} (h : ∀ o, o ≤ 11 ∨ 28 ≤ o ∧ o ≤ 36 → τ o = σ o) (h1 : τ 26 1 = σ 26 1) (h4 : τ 26 4 = σ 26 4) (H : RG σ) : RG τ := by
  rcases H with ⟨a, b, c⟩ | ⟨S, g⟩
  · exact Or.inl ⟨by rw [h 1 (by omega)]; exact a, by rw [h 1 (by omega)]; exact b, by rw [h1]; exact c⟩
  · exact Or.inr ⟨S, GO_c h h1 h4 g⟩
theorem RG_m {σ τ : Sg} (h : Fm σ τ) (H : RG σ) : RG τ := RG_c (fun o ho => h.1 o (by omega) (by omega) (by omega)) (h.2 1 (by omega)) (h.2 4 (by omega)) H
theorem GO_m {σ τ : Sg} (h : Fm σ τ) {S : Nat} (H : GO σ S) : GO τ S := GO_c (fun o ho => h.1 o (by omega) (by omega) (by omega)) (h.2 1 (by omega)) (h.2 4 (by omega)) H
theorem pStop_B (f0 f1 : Int32) : pStop (pB f0 f1) 0 = pB f0 f1 := by
  unfold pStop
  rw [show upd (pB f0 f1) 6 0 = pB f0 f1 from upd_same _ 6, show upd (pB f0 f1) 7 (-4) = pB f0 f1 from upd_same _ 7, show upd (pB f0 f1) 8 0 = pB f0 f1 from upd_same _ 8, show upd (pB f0 f1) 9 0 = pB f0 f1 from upd_same _ 9, show upd (pB f0 f1) 10 (-4) = pB f0 f1 from upd_same _ 10, show upd (pB f0 f1) 11 (-4) = pB f0 f1 from upd_same _ 11]
/-- the position before a ruling -/
def rq (σ : Sg) : Nat → Ps
  | 0 => pB (σ 1 11) (σ 1 12)
  | n + 1 => pLead (rp σ n) (σ 2 n).toNatClampNeg (σ 3 n)
theorem rq_p (σ : Sg) (k : Nat) : rp σ k = pObey (rq σ k) (σ 7 k).toNatClampNeg := by
  cases k <;> rfl
theorem rq_V {σ : Sg} {S : Nat} (h : GP σ S) {k : Nat} (hk : k ≤ S) : V (rq σ k) := by
  cases k with
  | zero => exact V_B _ _
  | succ k =>
    obtain ⟨d, b, h1, h2, h3, h4, h5⟩ := h.1 k (by omega)
    show V (pLead (rp σ k) (σ 2 k).toNatClampNeg (σ 3 k))
    rw [h3, h4, z_cl (n := d) (by omega)]
    exact V_lead (rp_V h k (by omega)) h1 h2 h5
theorem m_J76 (rec : Sg → Int32 → Int32 → Rs) (τ : Sg) (x : Int32) {k : Nat} (hk : k ≤ 150) : f_X6_goTo_J76 rec τ x (nI k) = if τ 35 k < 0 then f_X6_goTo_J95 rec τ x (nI k) else q_bnd (f_X6_turnTo τ (τ 35 k)) fun s _ => f_X6_goTo_J95 rec s x (nI k) := by
  have e : (nI k).toNatClampNeg = k := z_cl (n := k) (by omega)
  have o : ¬ q_oob (nI k) 151 := o_in (k := k) (n := 151) (by omega) (by decide)
  unfold f_X6_goTo_J76
  rw [if_neg o]
  by_cases h : τ 35 k < 0
  · rw [if_pos (show τ 35 (nI k).toNatClampNeg < 0 by rw [e]; exact h), if_pos h]
  · rw [if_neg (show ¬ τ 35 (nI k).toNatClampNeg < 0 by rw [e]; exact h), if_neg h, if_neg o, e]
theorem m_rule {τ : Sg} {p : Ps} (hS : SM τ p) (hV : V p) (rec : Sg → Int32 → Int32 → Rs) {N k r : Nat} (hk : k ≤ N) (hN : N ≤ 150) (hr : r = 0 ∧ τ 36 k = 0 ∧ τ 35 k = -1 ∨ r = 1 ∧ τ 36 k = 1 ∧ τ 35 k = -1 ∨ ∃ s, s < 2 ∧ r = s + 2 ∧ τ 35 k = nI s ∧ (τ 36 k = 0 ∨ τ 36 k = 1)) : ∃ τ', s_X6_goTo_L51 rec τ (nI N) (nI k) = f_X6_goTo_J95 rec τ' (nI N) (nI k) ∧ SM τ' (pObey p r) ∧ Fm τ τ' := by
  have hk' : k ≤ 150 := by omega
  unfold s_X6_goTo_L51
  rw [if_neg (show ¬ nI N < nI k from nI_nlt hk (by omega)), if_neg (o_in (k := k) (n := 151) (by omega) (by decide)), z_cl (n := k) (by omega)]
  have hS' := hS
  obtain ⟨v7, v6, v11, v0, v1, v2⟩ := hV
  obtain ⟨s37, s38, s15, s16, s17, s18, sA, sB⟩ := hS
  have n1 : (-1 : Int32) < 0 := by decide
  rcases hr with ⟨rfl, e1, e2⟩ | ⟨rfl, e1, e2⟩ | ⟨s, s2, rfl, e1, e2⟩
  · rw [if_pos e1, m_J76 _ _ _ hk', if_pos (by rw [e2]; exact n1)]
    exact ⟨τ, rfl, hS', Fm_r _⟩
  · rw [if_neg (by rw [e1]; decide)]
    by_cases a7 : p 7 = -4
    · rw [if_pos (by rw [s15, a7]; decide), m_J76 _ _ _ hk', if_pos (by rw [e2]; exact n1)]
      refine ⟨τ, rfl, ?_, Fm_r _⟩
      show SM τ (pEnd p)
      unfold pEnd
      rw [if_pos a7]
      exact hS'
    · obtain ⟨c, c4, ec⟩ := v7.resolve_left a7
      obtain ⟨τ', g1, g2, g3⟩ := m_end s37 s38 s15 a7 (sB a7) v6
      rw [if_neg (by rw [s15, ec]; exact nb_neg c4), g1, b_some, m_J76 _ _ _ hk', if_pos (by rw [g3.1 35 (by decide) (by decide) (by decide), e2]; exact n1)]
      exact ⟨τ', rfl, g2, g3⟩
  · have n2 : ¬ nI s < 0 := nb_neg (by omega)
    have last : ∀ τ1, Fm τ τ1 → (∀ i, i < 4 → τ1 37 i = p i) → (∀ i, i < 2 → τ1 38 i = p (4 + i)) → ∃ τ', f_X6_goTo_J76 rec τ1 (nI N) (nI k) = f_X6_goTo_J95 rec τ' (nI N) (nI k) ∧ SM τ' (pStop p (nI s)) ∧ Fm τ τ' := by
      intro τ1 F a b
      obtain ⟨τ', g1, g2, g3⟩ := m_stop a b (nI s)
      have e3 : τ1 35 k = nI s := by rw [F.1 35 (by decide) (by decide) (by decide)]; exact e1
      rw [m_J76 _ _ _ hk', if_neg (by rw [e3]; exact n2), e3, g1, b_some]
      exact ⟨τ', rfl, g2, Fm_t F g3⟩
    show ∃ τ', _ ∧ SM τ' (pStop p (nI s)) ∧ Fm τ τ'
    have l0 := last τ (Fm_r _) s37 s38
    by_cases e0 : τ 36 k = 0
    · rw [if_pos e0]
      exact l0
    · rw [if_neg e0]
      by_cases a7 : p 7 = -4
      · rw [if_pos (by rw [s15, a7]; decide)]
        exact l0
      · obtain ⟨c, c4, ec⟩ := v7.resolve_left a7
        obtain ⟨τ', g1, g2, g3⟩ := m_end s37 s38 s15 a7 (sB a7) v6
        rw [if_neg (by rw [s15, ec]; exact nb_neg c4), g1, b_some]
        have eP : ∀ i, i < 6 → pEnd p i = p i := by
          intro i hi
          unfold pEnd
          rw [if_neg a7, u_ne _ _ (by omega), pStop_lo _ _ hi]
        exact last τ' g3 (fun i hi => by rw [g2.1 i hi, eP i (by omega)]) (fun i hi => by rw [g2.2.1 i hi, eP (4 + i) (by omega)])
theorem m_goL {ω σ : Sg} {S N : Nat} (H : GO ω S) (E : σ 29 = ω 29 ∧ σ 30 = ω 30 ∧ σ 31 = ω 31 ∧ σ 35 = ω 35 ∧ σ 36 = ω 36) (hN : N ≤ S) : ∀ (d k q : Nat) (τ : Sg), k + d = N → d + 1 < q → Fm σ τ → SM τ (rq ω k) → ∃ τ', f_X6_goTo_L51 q τ (nI N) (nI k) = some (τ', 0) ∧ SM τ' (rp ω N) ∧ Fm σ τ' := by
  obtain ⟨E29, E30, E31, E35, E36⟩ := E
  have hP := GO_P H
  obtain ⟨hS, -, -, -, -, hG, hR, -⟩ := H
  intro d
  induction d with
  | zero =>
    intro k q τ hk hq F hv
    obtain ⟨q, rfl⟩ : ∃ p, q = p + 2 := ⟨q - 2, by omega⟩
    have : k = N := by omega
    subst this
    obtain ⟨r, r4, er, h⟩ := hR k (by omega)
    obtain ⟨τ', g1, g2, g3⟩ := m_rule (τ := τ) hv (rq_V hP (by omega)) (f_X6_goTo_L51 (q + 1)) (N := k) (k := k) (r := r) (Nat.le_refl _) (by omega) (by rw [F.1 36 (by decide) (by decide) (by decide), F.1 35 (by decide) (by decide) (by decide), E35, E36]; exact h)
    refine ⟨τ', ?_, ?_, Fm_t F g3⟩
    · show s_X6_goTo_L51 (f_X6_goTo_L51 (q + 1)) τ (nI k) (nI k) = _
      rw [g1]
      unfold f_X6_goTo_J95
      rw [if_pos (nI_le (Nat.le_refl _) (by omega)), l_eq, nI_1]
      show s_X6_goTo_L51 (f_X6_goTo_L51 q) τ' (nI k) (nI (k + 1)) = _
      unfold s_X6_goTo_L51
      rw [if_pos (nI_lt (by omega) (by omega))]
    · rw [rq_p, er, z_cl (n := r) (by omega)]
      exact g2
  | succ d ih =>
    intro k q τ hk hq F hv
    obtain ⟨q, rfl⟩ : ∃ p, q = p + 1 := ⟨q - 1, by omega⟩
    obtain ⟨r, r4, er, h⟩ := hR k (by omega)
    obtain ⟨τ1, g1, g2, g3⟩ := m_rule (τ := τ) hv (rq_V hP (by omega)) (f_X6_goTo_L51 q) (N := N) (k := k) (r := r) (by omega) (by omega) (by rw [F.1 36 (by decide) (by decide) (by decide), F.1 35 (by decide) (by decide) (by decide), E35, E36]; exact h)
    have F1 := Fm_t F g3
    have e : pObey (rq ω k) r = rp ω k := by rw [rq_p, er, z_cl (n := r) (by omega)]
    rw [e] at g2
    obtain ⟨kd, b, a1, a2, a3, a4, a5, a6, a7, -⟩ := hG k (by omega)
    obtain ⟨τ2, b1, b2, b3⟩ := m_make g2 (rp_V hP k (by omega)) a1 a2 a7
    obtain ⟨τ3, c1, c2, c3⟩ := ih (k + 1) q τ2 (by omega) (by omega) (Fm_t F1 b3) (by
      show SM τ2 (pLead (rp ω k) (ω 2 k).toNatClampNeg (ω 3 k))
      rw [a3, a4, z_cl (n := kd) (by omega)]
      exact b2)
    refine ⟨τ3, ?_, c2, c3⟩
    show s_X6_goTo_L51 (f_X6_goTo_L51 q) τ (nI N) (nI k) = _
    rw [g1]
    unfold f_X6_goTo_J95
    rw [if_neg (nI_ge (by omega) (by omega)), if_neg (o_in (k := k) (n := 150) (by omega) (by decide)), if_neg (o_in (k := k) (n := 150) (by omega) (by decide)), z_cl (n := k) (by omega), F1.1 30 (by decide) (by decide) (by decide), F1.1 31 (by decide) (by decide) (by decide), E30, E31, a5, a6, b1, b_some, l_eq, nI_1]
    exact c1
theorem m_goToE {ω σ : Sg} {S N : Nat} (H : GO ω S) (E : σ 29 = ω 29 ∧ σ 30 = ω 30 ∧ σ 31 = ω 31 ∧ σ 35 = ω 35 ∧ σ 36 = ω 36) (hN : N ≤ S) : ∃ τ', f_X6_goTo σ (nI N) = some (τ', 0) ∧ SM τ' (rp ω N) ∧ Fm σ τ' := by
  have E29 := E.1
  have hS := H.1
  have e0 := H.2.2.2.2.2.2.2.2.1
  have e1 := H.2.2.2.2.2.2.2.2.2.1
  have z : ∀ (rec : Sg → Int32 → Int32 → Rs) (τ : Sg) (i : Nat), i < 4 → s_X6_goTo_L2 rec τ (nI N) (nI i) = rec (q_wr τ 37 i 0) (nI N) (nI (i + 1)) := by
    intro rec τ i hi
    unfold s_X6_goTo_L2
    rw [if_neg (show ¬ (4 : Int32) ≤ nI i from nI_ge (b := 4) hi (by omega)), if_neg (o_in hi (by decide)), z_cl (n := i) (by omega), ls_eq, l_eq, nI_1]
  have F0 : Fm σ (q_wr (q_wr (q_wr (q_wr σ 37 0 0) 37 1 0) 37 2 0) 37 3 0) := Fm_t (Fm_t (Fm_t (Fm_37 _ _) (Fm_37 _ _)) (Fm_37 _ _)) (Fm_37 _ _)
  have z37 : ∀ i, i < 4 → (q_wr (q_wr (q_wr (q_wr σ 37 0 0) 37 1 0) 37 2 0) 37 3 0) 37 i = 0 := by
    intro i hi
    match i, hi with
    | 0, _ => simp [w_at]
    | 1, _ => simp [w_at]
    | 2, _ => simp [w_at]
    | 3, _ => simp [w_at]
    | n + 4, h => exact absurd h (by omega)
  unfold f_X6_goTo
  show ∃ τ', s_X6_goTo_L2 (f_X6_goTo_L2 999) σ (nI N) (nI 0) = _ ∧ _
  rw [z _ _ 0 (by decide)]
  show ∃ τ', s_X6_goTo_L2 (f_X6_goTo_L2 998) _ (nI N) (nI 1) = _ ∧ _
  rw [z _ _ 1 (by decide)]
  show ∃ τ', s_X6_goTo_L2 (f_X6_goTo_L2 997) _ (nI N) (nI 2) = _ ∧ _
  rw [z _ _ 2 (by decide)]
  show ∃ τ', s_X6_goTo_L2 (f_X6_goTo_L2 996) _ (nI N) (nI 3) = _ ∧ _
  rw [z _ _ 3 (by decide)]
  show ∃ τ', s_X6_goTo_L2 (f_X6_goTo_L2 995) _ (nI N) (nI 4) = _ ∧ _
  generalize (q_wr (q_wr (q_wr (q_wr σ 37 0 0) 37 1 0) 37 2 0) 37 3 0) = τ0 at F0 z37
  unfold s_X6_goTo_L2
  have o0 : ¬ q_oob (0 : Int32) 2 := by decide
  have o1 : ¬ q_oob (1 : Int32) 2 := by decide
  rw [if_pos (by decide), if_neg o0, if_neg o0, ls_eq, if_neg o1, if_neg o1, ls_eq]
  have t0 : (0 : Int32).toNatClampNeg = 0 := rfl
  have t1 : (1 : Int32).toNatClampNeg = 1 := rfl
  rw [t0, t1]
  have F1 : Fm σ (q_wr (q_wr τ0 38 0 (τ0 29 0)) 38 1 (q_wr τ0 38 0 (τ0 29 0) 29 1)) := Fm_t (Fm_t F0 (Fm_38 _ _)) (Fm_38 _ _)
  have y37 : ∀ i, i < 4 → (q_wr (q_wr τ0 38 0 (τ0 29 0)) 38 1 (q_wr τ0 38 0 (τ0 29 0) 29 1)) 37 i = pB (ω 1 11) (ω 1 12) i := by
    intro i hi
    rw [w_ne _ _ _ (by decide), w_ne _ _ _ (by decide), z37 i hi]
    simp [pB, hi]
  have y38 : ∀ i, i < 2 → (q_wr (q_wr τ0 38 0 (τ0 29 0)) 38 1 (q_wr τ0 38 0 (τ0 29 0) 29 1)) 38 i = pB (ω 1 11) (ω 1 12) (4 + i) := by
    intro i hi
    match i, hi with
    | 0, _ =>
      rw [w_at, if_neg (by decide), w_at, if_pos ⟨rfl, rfl⟩, F0.1 29 (by decide) (by decide) (by decide), E29, e0]
      rfl
    | 1, _ =>
      rw [w_at, if_pos ⟨rfl, rfl⟩, w_ne _ _ _ (by decide), F0.1 29 (by decide) (by decide) (by decide), E29, e1]
      rfl
    | n + 2, h => exact absurd h (by omega)
  obtain ⟨τ1, a1, a2, a3⟩ := m_stop y37 y38 0
  rw [a1, b_some]
  rw [pStop_B] at a2
  exact m_goL H E hN N 0 1000 τ1 (by omega) (by omega) (Fm_t F1 a3) a2
theorem m_goTo {σ : Sg} {S N : Nat} (H : GO σ S) (hN : N ≤ S) : ∃ τ', f_X6_goTo σ (nI N) = some (τ', 0) ∧ SM τ' (rp σ N) ∧ Fm σ τ' := m_goToE H ⟨rfl, rfl, rfl, rfl, rfl⟩ hN
