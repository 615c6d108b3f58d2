/-! positions stay sound; the position after n strokes; the class's replay -/
theorem V_bring {p : Ps} {b : Nat} (hb : b < 4) (h6 : p 6 = nI 0 ∨ p 6 = nI 1) (h11 : p 11 = -4 ∨ ∃ b, b < 4 ∧ p 11 = nI b) (h10 : p 10 = -4) : V (pBring p (nI b)) :=
  ⟨Or.inr ⟨b, hb, rfl⟩, h6, h11, fun h => absurd h (nb_4 hb), fun _ _ => rfl, fun _ h => absurd h10 h⟩
theorem V_stop (p : Ps) {s : Int32} (hs : s = nI 0 ∨ s = nI 1) : V (pStop p s) := ⟨Or.inl rfl, hs, Or.inl rfl, fun _ => ⟨rfl, rfl, rfl⟩, fun h => absurd rfl h, fun h => absurd rfl h⟩
theorem V_end {p : Ps} (h7 : p 7 = -4 → V p) (h : p 7 = -4 ∨ ∃ b, b < 4 ∧ p 7 = nI b) (h6 : p 6 = nI 0 ∨ p 6 = nI 1) : V (pEnd p) := by
  unfold pEnd
  by_cases a : p 7 = -4
  · rw [if_pos a]
    exact h7 a
  · rw [if_neg a]
    obtain ⟨t, t2, et, et', ets⟩ := s_fl h6
    exact ⟨Or.inl rfl, et', h, fun _ => ⟨rfl, rfl, rfl⟩, fun h => absurd rfl h, fun h => absurd rfl h⟩
theorem V_obey {p : Ps} (h : V p) {r : Nat} (hr : r < 4) : V (pObey p r) := by
  match r, hr with
  | 0, _ => exact h
  | 1, _ => exact V_end (fun _ => h) h.1 h.2.1
  | 2, _ => exact V_stop p (Or.inl rfl)
  | 3, _ => exact V_stop p (Or.inr rfl)
  | n + 4, h => exact absurd h (by omega)
theorem V_B (f0 f1 : Int32) : V (pB f0 f1) := ⟨Or.inl rfl, Or.inl rfl, Or.inl rfl, fun _ => ⟨rfl, rfl, rfl⟩, fun h => absurd rfl h, fun h => absurd rfl h⟩
theorem u_ne (p : Ps) {c i : Nat} (v : Int32) (h : i ≠ c) : upd p c v i = p i := by simp [upd, h]
theorem V_lead {p : Ps} (h : V p) {k b : Nat} (hk : k ≤ 6) (hb : b < 4) (hc : pCan p k b) : V (pLead p k (nI b)) := by
  have hV := h
  obtain ⟨v7, v6, v11, v0, v1, v2⟩ := h
  match k, hk, hc with
  | 0, _, hc => exact V_bring hb v6 v11 (v0 hc.1).2.2
  | 1, _, hc => exact V_end (fun _ => hV) v7 v6
  | 2, _, hc =>
    obtain ⟨h7, h10, h⟩ := hc
    obtain ⟨c, c4, ec⟩ := v7.resolve_left h7
    show V (pBring (upd p (p 7).toNatClampNeg (p (p 7).toNatClampNeg + 1)) (p 7))
    rw [ec, z_cl (n := c) (by omega)]
    exact V_bring c4 (by rw [u_ne _ _ (by omega)]; exact v6) (by rw [u_ne _ _ (by omega)]; exact v11) (by rw [u_ne _ _ (by omega)]; exact h10)
  | 3, _, hc =>
    obtain ⟨h7, h10, h⟩ := hc
    exact ⟨v7, v6, v11, fun a => absurd a h7, fun _ a => absurd a (nb_4 hb), fun _ _ => by show p 8 - 1 = 0; rw [v1 h7 h10]; rfl⟩
  | 4, _, hc => exact ⟨v7, v6, v11, fun a => absurd a hc.1, fun _ _ => rfl, fun _ a => absurd rfl a⟩
  | 5, _, hc =>
    obtain ⟨h7, h10, h⟩ := hc
    obtain ⟨c, c4, ec⟩ := v7.resolve_left h7
    show V (pEnd (upd p (p 7).toNatClampNeg 7))
    rw [ec, z_cl (n := c) (by omega)]
    refine V_end (fun a => absurd ?_ h7) ?_ ?_
    · rw [u_ne _ _ (by omega)] at a
      exact a
    · rw [u_ne _ _ (by omega)]
      exact v7
    · rw [u_ne _ _ (by omega)]
      exact v6
  | 6, _, hc =>
    obtain ⟨h7, h11, h⟩ := hc
    obtain ⟨c, c4, ec⟩ := v11.resolve_left h11
    obtain ⟨t, t2, et, et', ets⟩ := s_fl v6
    show V (pBring (upd (upd p 6 (1 - p 6)) (4 + (1 - p 6).toNatClampNeg) (p (4 + (1 - p 6).toNatClampNeg) - 1)) (p 11))
    rw [ec]
    have ht : (1 - p 6).toNatClampNeg = t := by rw [et, z_cl (n := t) (by omega)]
    rw [ht]
    refine V_bring c4 ?_ ?_ ?_
    · rw [u_ne _ _ (by omega)]
      exact et'
    · rw [u_ne _ _ (by omega), u_ne _ _ (by omega)]
      exact v11
    · rw [u_ne _ _ (by omega), u_ne _ _ (by omega)]
      exact (v0 h7).2.2
  | n + 7, h, _ => exact absurd h (by omega)
def rp (σ : Sg) : Nat → Ps
  | 0 => pObey (pB (σ 1 11) (σ 1 12)) (σ 7 0).toNatClampNeg
  | n + 1 => pObey (pLead (rp σ n) (σ 2 n).toNatClampNeg (σ 3 n)) (σ 7 (n + 1)).toNatClampNeg
theorem rp_c {σ τ : Sg} (h0 : τ 1 11 = σ 1 11) (h1 : τ 1 12 = σ 1 12) : ∀ n : Nat, (∀ i, i < n → τ 2 i = σ 2 i) → (∀ i, i < n → τ 3 i = σ 3 i) → (∀ i, i ≤ n → τ 7 i = σ 7 i) → rp τ n = rp σ n := by
  intro n
  induction n with
  | zero =>
    intro _ _ h
    show pObey (pB (τ 1 11) (τ 1 12)) (τ 7 0).toNatClampNeg = pObey (pB (σ 1 11) (σ 1 12)) (σ 7 0).toNatClampNeg
    rw [h0, h1, h 0 (by omega)]
  | succ n ih =>
    intro a b c
    show pObey (pLead (rp τ n) (τ 2 n).toNatClampNeg (τ 3 n)) (τ 7 (n + 1)).toNatClampNeg = pObey (pLead (rp σ n) (σ 2 n).toNatClampNeg (σ 3 n)) (σ 7 (n + 1)).toNatClampNeg
    rw [a n (by omega), b n (by omega), c (n + 1) (by omega), ih (fun i h => a i (by omega)) (fun i h => b i (by omega)) (fun i h => c i (by omega))]
def GP (σ : Sg) (S : Nat) : Prop := (∀ k, k < S → ∃ d b, d ≤ 6 ∧ b < 4 ∧ σ 2 k = nI d ∧ σ 3 k = nI b ∧ pCan (rp σ k) d b) ∧ ∀ k, k ≤ S → ∃ r, r < 4 ∧ σ 7 k = nI r
theorem rp_s {σ : Sg} {S k : Nat} (h : GP σ S) (hk : k < S) : ∃ d b r, d ≤ 6 ∧ b < 4 ∧ r < 4 ∧ σ 2 k = nI d ∧ σ 3 k = nI b ∧ σ 7 (k + 1) = nI r ∧ pCan (rp σ k) d b ∧ rp σ (k + 1) = pObey (pLead (rp σ k) d (nI b)) r := by
  obtain ⟨d, b, h1, h2, h3, h4, h5⟩ := h.1 k hk
  obtain ⟨r, r4, er⟩ := h.2 (k + 1) (by omega)
  refine ⟨d, b, r, h1, h2, r4, h3, h4, er, h5, ?_⟩
  show pObey (pLead (rp σ k) (σ 2 k).toNatClampNeg (σ 3 k)) (σ 7 (k + 1)).toNatClampNeg = _
  rw [h3, h4, er, z_cl (n := d) (by omega), z_cl (n := r) (by omega)]
theorem rp_V {σ : Sg} {S : Nat} (h : GP σ S) : ∀ k : Nat, k ≤ S → V (rp σ k) := by
  intro k
  induction k with
  | zero =>
    intro _
    obtain ⟨r, r4, er⟩ := h.2 0 (by omega)
    show V (pObey (pB (σ 1 11) (σ 1 12)) (σ 7 0).toNatClampNeg)
    rw [er, z_cl (n := r) (by omega)]
    exact V_obey (V_B _ _) r4
  | succ k ih =>
    intro hk
    obtain ⟨d, b, r, h1, h2, h3, _, _, _, h5, h6⟩ := rp_s h (k := k) (by omega)
    rw [h6]
    exact V_obey (V_lead (ih (by omega)) h1 h2 h5) h3
theorem c_leadL {o : Nat} (ho : o = 9 ∨ o = 12) {σ : Sg} {S N : Nat} (hN : N ≤ S) (hS : S ≤ 150) (h10 : σ 1 10 = nI S) (h : GP σ S) : ∀ (d k q : Nat) (τ : Sg), k + d = N → d < q → Fo o σ τ → vC o τ = rp σ k → ∃ τ', f_X2_leadTo_L26 o q τ (nI N) (nI k) = some (τ', 0) ∧ vC o τ' = rp σ N ∧ Fo o σ τ' := by
  intro d
  induction d with
  | zero =>
    intro k q τ hk hq hF hv
    obtain ⟨q, rfl⟩ : ∃ p, q = p + 1 := ⟨q - 1, by omega⟩
    have : k = N := by omega
    subst this
    refine ⟨τ, ?_, hv, hF⟩
    show s_X2_leadTo_L26 o (f_X2_leadTo_L26 o q) τ (nI k) (nI k) = _
    unfold s_X2_leadTo_L26
    rw [if_pos (nI_le (Nat.le_refl _) (by omega))]
  | succ d ih =>
    intro k q τ hk hq hF hv
    obtain ⟨q, rfl⟩ : ∃ p, q = p + 1 := ⟨q - 1, by omega⟩
    obtain ⟨kd, b, r, h1, h2, h3, e2, e3, e7, h5, h6⟩ := rp_s h (k := k) (by omega)
    have f1 : τ 1 10 = nI S := by rw [hF 1 (by omega) (by omega) (by omega)]; exact h10
    have f2 : τ 2 k = nI kd := by rw [hF 2 (by omega) (by omega) (by omega)]; exact e2
    have f3 : τ 3 k = nI b := by rw [hF 3 (by omega) (by omega) (by omega)]; exact e3
    obtain ⟨τ1, a1, a2, a3⟩ := c_lead o τ h1 h2 (by rw [hv]; exact rp_V h k (by omega)) (by rw [hv]; exact h5)
    have f7 : τ1 7 (k + 1) = nI r := by rw [a3 7 (by omega) (by omega) (by omega), hF 7 (by omega) (by omega) (by omega)]; exact e7
    obtain ⟨τ2, b1, b2, b3⟩ := c_obey o τ1 h3
    obtain ⟨τ3, c1, c2, c3⟩ := ih (k + 1) q τ2 (by omega) (by omega) (Fo_t (Fo_t hF a3) b3) (by rw [b2, a2, hv, h6])
    refine ⟨τ3, ?_, c2, c3⟩
    show s_X2_leadTo_L26 o (f_X2_leadTo_L26 o q) τ (nI N) (nI k) = _
    unfold s_X2_leadTo_L26
    rw [if_neg (nI_ge (by omega) (by omega)), f1, if_neg (nI_ge (by omega) (by omega)), r_at (a := 2) (n := 150) τ (show k < 150 by omega) (by decide), b_some, r_at (a := 3) (n := 150) τ (show k < 150 by omega) (by decide), b_some, f2, f3, a1, b_some, nI_1, r_at (a := 7) (n := 151) τ1 (show k + 1 < 151 by omega) (by decide), b_some, f7, b1, b_some, l_eq]
    exact c1
theorem c_leadTo {o : Nat} (ho : o = 9 ∨ o = 12) {σ : Sg} {S N : Nat} (hN : N ≤ S) (hS : S ≤ 150) (h10 : σ 1 10 = nI S) (h : GP σ S) : ∃ τ', f_X2_leadTo o σ (nI N) = some (τ', 0) ∧ vC o τ' = rp σ N ∧ Fo o σ τ' := by
  obtain ⟨r, r4, er⟩ := h.2 0 (by omega)
  obtain ⟨τ1, a1, a2, a3⟩ := c_begin o σ (σ 1 11) (σ 1 12)
  obtain ⟨τ2, b1, b2, b3⟩ := c_obey o τ1 r4
  have f7 : τ1 7 0 = nI r := by rw [a3 7 (by omega) (by omega) (by omega)]; exact er
  obtain ⟨τ3, c1, c2, c3⟩ := c_leadL ho hN hS h10 h N 0 1000 τ2 (by omega) (by omega) (Fo_t a3 b3) (by
    rw [b2, a2]
    show _ = pObey (pB (σ 1 11) (σ 1 12)) (σ 7 0).toNatClampNeg
    rw [er, z_cl (n := r) (by omega)])
  refine ⟨τ3, ?_, c2, c3⟩
  unfold f_X2_leadTo
  rw [a1, b_some, show f_X5_at 7 151 τ1 0 = _ from r_at (a := 7) (n := 151) (k := 0) τ1 (by decide) (by decide), b_some, f7, b1, b_some]
  exact c1
