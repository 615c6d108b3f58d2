theorem SM_c {τ τ' : Sg} {p : Ps} (h : SM τ p) (h37 : τ' 37 = τ 37) (h38 : τ' 38 = τ 38) (h26 : ∀ k, 14 ≤ k → k ≤ 21 → τ' 26 k = τ 26 k) : SM τ' p := by
  unfold SM at *
  rw [h37, h38, h26 15 (by decide) (by decide), h26 16 (by decide) (by decide), h26 17 (by decide) (by decide), h26 18 (by decide) (by decide), h26 14 (by decide) (by decide), h26 19 (by decide) (by decide), h26 20 (by decide) (by decide), h26 21 (by decide) (by decide)]
  exact h
theorem pCan_7 {p : Ps} {k b : Nat} (hk : k ≤ 6) (h : pCan p k b) : (k = 0 ∨ k = 6) ∧ p 7 = -4 ∨ ¬ (k = 0 ∨ k = 6) ∧ ¬ p 7 = -4 := by
  match k, hk, h with
  | 0, _, h => exact Or.inl ⟨Or.inl rfl, h.1⟩
  | 1, _, h => exact Or.inr ⟨by omega, h.1⟩
  | 2, _, h => exact Or.inr ⟨by omega, h.1⟩
  | 3, _, h => exact Or.inr ⟨by omega, h.1⟩
  | 4, _, h => exact Or.inr ⟨by omega, h.1⟩
  | 5, _, h => exact Or.inr ⟨by omega, h.1⟩
  | 6, _, h => exact Or.inl ⟨Or.inr rfl, h.1⟩
  | n + 7, h, _ => exact absurd h (by omega)
theorem m_takes {τ : Sg} {p : Ps} {S k b : Nat} (hM : SM τ p) (hV : V p) (hS : S < 150) (h4 : τ 26 4 = nI S) (hk : k ≤ 6) (hb : b < 4) (w : pWin p = -4) (hc : pCan p k b) : f_X6_stroke_J67 τ (nI k) (nI b) = some (q_wr (q_wr (q_wr (q_wr (q_wr (q_wr τ 30 S (nI k)) 31 S (nI b)) 34 S (pWr p k (nI b))) 32 S (pSb p k b)) 33 S (pSs p k)) 26 4 (nI (S + 1)), nI S) := by
  have n10 : ¬ (1 : Int32) = 0 := by decide
  obtain ⟨r, a1, a2⟩ := m_canDo hM hV hk hb
  have hr : ¬ r = 0 := fun z => (a2.1 z) hc
  unfold f_X6_stroke_J67
  have oS : ¬ q_oob (nI S) 150 := o_in (k := S) (n := 150) hS (by decide)
  have cS : (nI S).toNatClampNeg = S := z_cl (n := S) (by omega)
  have x26 : ∀ i, q_wr (q_wr τ 30 S (nI k)) 31 S (nI b) 26 i = τ 26 i := fun i => by rw [w_ne _ _ _ (by decide), w_ne _ _ _ (by decide)]
  have y26 : ∀ v i, q_wr (q_wr (q_wr τ 30 S (nI k)) 31 S (nI b)) 34 S v 26 i = τ 26 i := fun v i => by rw [w_ne _ _ _ (by decide), w_ne _ _ _ (by decide), w_ne _ _ _ (by decide)]
  have z26 : ∀ v u i, q_wr (q_wr (q_wr (q_wr τ 30 S (nI k)) 31 S (nI b)) 34 S v) 32 S u 26 i = τ 26 i := fun v u i => by rw [w_ne _ _ _ (by decide), w_ne _ _ _ (by decide), w_ne _ _ _ (by decide), w_ne _ _ _ (by decide)]
  have u26 : ∀ v u t i, q_wr (q_wr (q_wr (q_wr (q_wr τ 30 S (nI k)) 31 S (nI b)) 34 S v) 32 S u) 33 S t 26 i = τ 26 i := fun v u t i => by rw [w_ne _ _ _ (by decide), w_ne _ _ _ (by decide), w_ne _ _ _ (by decide), w_ne _ _ _ (by decide), w_ne _ _ _ (by decide)]
  have hM2 : SM (q_wr (q_wr τ 30 S (nI k)) 31 S (nI b)) p := SM_c hM (by rw [w_ne _ _ _ (by decide), w_ne _ _ _ (by decide)]) (by rw [w_ne _ _ _ (by decide), w_ne _ _ _ (by decide)]) (fun i _ _ => x26 i)
  have wr := m_isWrong hM2 hk hc (nI b)
  have nar : vp_nar .boolean (pWr p k (nI b)) = pWr p k (nI b) := by
    rcases pWr_01 p k (nI b) with e | e <;> rw [e] <;> decide
  have e30 : q_wr τ 30 S (nI k) 26 4 = nI S := by rw [w_ne _ _ _ (by decide)]; exact h4
  rw [m_won hM.1, b_some, w, if_pos rfl, a1, b_some, if_neg hr, h4, if_neg (show ¬ nI S = (150 : Int32) from fun e => by have := (nI_eq (a := S) (b := 150) (by omega) (by decide)).1 e; omega), if_neg oS, ls_eq, cS, e30, if_neg oS, ls_eq, cS, wr, b_some, if_pos nar, x26, h4, if_neg oS, ls_eq, cS, y26, y26, y26, h4]
  obtain ⟨s37, s38, s15, s16, s17, s18, sA, sB⟩ := hM
  have J212 : ∀ (ρ : Sg) (v : Int32), ρ 26 4 = nI S → f_X6_stroke_J212 ρ (nI S) v = some (q_wr (q_wr ρ 33 S v) 26 4 (nI (S + 1)), nI S) := by
    intro ρ v h
    unfold f_X6_stroke_J212
    rw [if_neg oS, cS, ls_eq, show q_wr ρ 33 S v 26 4 = nI S by rw [w_ne _ _ _ (by decide)]; exact h, nI_1, ls_eq, show q_wr (q_wr ρ 33 S v) 26 4 (nI (S + 1)) 26 4 = nI (S + 1) by rw [w_at, if_pos ⟨rfl, rfl⟩], nI_pred]
  unfold f_X6_stroke_J175
  by_cases k0 : k = 0
  · have p7 : p 7 = -4 := by
      rcases pCan_7 hk hc with ⟨_, h⟩ | ⟨h, _⟩
      · exact h
      · exact absurd (Or.inl k0) h
    have kk : nI k = (0 : Int32) := by rw [k0]; rfl
    rw [if_pos kk, if_neg oS, cS, ls_eq, if_pos kk, z26, h4, z26, (sA p7).1, J212 _ _ (by rw [z26]; exact h4)]
    have eb : pSb p k b = nI b := by unfold pSb; rw [if_pos k0]
    have es : pSs p k = p 6 := by unfold pSs; rw [if_neg (by omega)]
    rw [eb, es]
  · have kk : ¬ nI k = (0 : Int32) := nI_ne0 (by omega) (by omega)
    rw [if_neg kk]
    by_cases k6 : k = 6
    · have hc6 : pCan p 6 b := by rw [← k6]; exact hc
      obtain ⟨p7, p11, -⟩ := hc6
      have kk6 : nI k = (6 : Int32) := by rw [k6]; rfl
      rcases (sA p7).2 with ⟨c1, c2⟩ | ⟨c1, c2, c3⟩
      · exact absurd c1 p11
      rw [if_pos kk6, if_neg oS, cS, ls_eq, if_neg kk, if_pos kk6, z26, h4, z26, c2, c3, J212 _ _ (by rw [z26]; exact h4)]
      have eb : pSb p k b = p 11 := by unfold pSb; rw [if_neg k0, if_pos k6]
      have es : pSs p k = 1 - p 6 := by unfold pSs; rw [if_pos k6]
      rw [eb, es]
    · have p7 : ¬ p 7 = -4 := by
        rcases pCan_7 hk hc with ⟨h, _⟩ | ⟨_, h⟩
        · exact absurd h (by omega)
        · exact h
      have kk6 : ¬ nI k = (6 : Int32) := fun e => k6 ((nI_eq (b := 6) (by omega) (by decide)).1 e)
      rw [if_neg kk6, if_neg oS, cS, ls_eq, if_neg kk, if_neg kk6, z26, h4, z26, s15, sB p7, J212 _ _ (by rw [z26]; exact h4)]
      have eb : pSb p k b = p 7 := by unfold pSb; rw [if_neg k0, if_neg k6]
      have es : pSs p k = p 6 := by unfold pSs; rw [if_neg k6]
      rw [eb, es]
def m_core (σ : Sg) (x y : Int32) : Rs := if σ 26 1 = 0 then some (σ, -2) else q_bnd (f_X6_goTo σ (σ 26 4)) fun s7 _ => f_X6_stroke_J67 s7 x y
theorem p_take {σ : Sg} (H : RG σ) {k b : Nat} (hk : k ≤ 6) (hb : b < 4) : ∃ σ1 σ2 r, f_X2_take σ (nI k) (nI b) = some (σ1, r) ∧ Fc σ σ1 ∧ m_core σ1 (nI k) (nI b) = some (σ2, r) ∧ Fr σ1 σ2 ∧ RG σ2 := by
  have n10 : ¬ (1 : Int32) = 0 := by decide
  have H' := H
  rcases H with ⟨h9, h10, h1⟩ | ⟨S, G⟩
  · refine ⟨σ, σ, -2, ?_, fun _ _ => rfl, ?_, ⟨fun _ _ _ => rfl, fun _ _ => rfl⟩, H'⟩
    · unfold f_X2_take
      rw [if_pos h9]
    · unfold m_core
      rw [if_pos h1]
  have h9 := G.2.1
  have g1 := G.2.2.1
  have h10 := G.2.2.2.1
  have h4 := G.2.2.2.2.1
  have hv := G.2.2.2.2.2.2.2.2.2.2.2
  have hP := GO_P G
  have hV := rp_V hP S (Nat.le_refl _)
  have hS := G.1
  by_cases ok : pWin (rp σ S) = -4 ∧ pCan (rp σ S) k b
  · by_cases full : S = 150
    · obtain ⟨τ, t1, t2, t3⟩ := m_goTo G (Nat.le_refl S)
      refine ⟨σ, τ, -3, ?_, fun _ _ => rfl, ?_, Fr_m t3, RG_m t3 H'⟩
      · obtain ⟨r, a1, a2⟩ := c_allows 9 σ hk hb (by rw [hv]; exact hV)
        have hr : ¬ r = 0 := fun z => (a2.1 z) (by rw [hv]; exact ok)
        unfold f_X2_take
        rw [if_neg (show ¬ σ 1 9 = 0 by rw [h9]; decide), a1, b_some, if_neg hr, h10, if_neg (show ¬ nI S < (150 : Int32) from nI_nlt (b := 150) (by omega) (by omega))]
      · unfold m_core
        rw [if_neg (show ¬ σ 26 1 = 0 by rw [g1]; decide), h4, t1, b_some]
        unfold f_X6_stroke_J67
        obtain ⟨r, a1, a2⟩ := m_canDo t2 hV hk hb
        have hr : ¬ r = 0 := fun z => (a2.1 z) ok.2
        rw [m_won t2.1, b_some, ok.1, if_pos rfl, a1, b_some, if_neg hr, t3.2 4 (by decide), h4, if_pos (show nI S = (150 : Int32) by rw [full]; rfl)]
    · have hS' : S < 150 := by omega
      obtain ⟨σ1, a1, F, b1, b2, b3, b4, b5, b6, b7, b8, bv⟩ := c_takes G hS' hk hb ok.1 ok.2
      obtain ⟨τ, t1, t2, t3⟩ := m_goToE (σ := σ1) G ⟨F 29 (by decide), F 30 (by decide), F 31 (by decide), F 35 (by decide), F 36 (by decide)⟩ (Nat.le_refl S)
      have e26 : σ1 26 = σ 26 := F 26 (by decide)
      have h4' : τ 26 4 = nI S := by rw [t3.2 4 (by decide), e26]; exact h4
      have mt := m_takes t2 hV hS' h4' hk hb ok.1 ok.2
      have oT : ∀ o, o ≠ 26 → o ≠ 30 → o ≠ 31 → o ≠ 32 → o ≠ 33 → o ≠ 34 → q_wr (q_wr (q_wr (q_wr (q_wr (q_wr τ 30 S (nI k)) 31 S (nI b)) 34 S (pWr (rp σ S) k (nI b))) 32 S (pSb (rp σ S) k b)) 33 S (pSs (rp σ S) k)) 26 4 (nI (S + 1)) o = τ o := fun o x1 x2 x3 x4 x5 x6 => by
        rw [w_ne _ _ _ x1, w_ne _ _ _ x5, w_ne _ _ _ x4, w_ne _ _ _ x6, w_ne _ _ _ x3, w_ne _ _ _ x2]
      have o26 : ∀ i, q_wr (q_wr (q_wr (q_wr (q_wr (q_wr τ 30 S (nI k)) 31 S (nI b)) 34 S (pWr (rp σ S) k (nI b))) 32 S (pSb (rp σ S) k b)) 33 S (pSs (rp σ S) k)) 26 4 (nI (S + 1)) 26 i = if i = 4 then nI (S + 1) else τ 26 i := fun i => by simp [w_at]
      have o30 : ∀ i, q_wr (q_wr (q_wr (q_wr (q_wr (q_wr τ 30 S (nI k)) 31 S (nI b)) 34 S (pWr (rp σ S) k (nI b))) 32 S (pSb (rp σ S) k b)) 33 S (pSs (rp σ S) k)) 26 4 (nI (S + 1)) 30 i = if i = S then nI k else τ 30 i := fun i => by simp [w_at]
      have o31 : ∀ i, q_wr (q_wr (q_wr (q_wr (q_wr (q_wr τ 30 S (nI k)) 31 S (nI b)) 34 S (pWr (rp σ S) k (nI b))) 32 S (pSb (rp σ S) k b)) 33 S (pSs (rp σ S) k)) 26 4 (nI (S + 1)) 31 i = if i = S then nI b else τ 31 i := fun i => by simp [w_at]
      have o34 : ∀ i, q_wr (q_wr (q_wr (q_wr (q_wr (q_wr τ 30 S (nI k)) 31 S (nI b)) 34 S (pWr (rp σ S) k (nI b))) 32 S (pSb (rp σ S) k b)) 33 S (pSs (rp σ S) k)) 26 4 (nI (S + 1)) 34 i = if i = S then pWr (rp σ S) k (nI b) else τ 34 i := fun i => by simp [w_at]
      have o32 : ∀ i, q_wr (q_wr (q_wr (q_wr (q_wr (q_wr τ 30 S (nI k)) 31 S (nI b)) 34 S (pWr (rp σ S) k (nI b))) 32 S (pSb (rp σ S) k b)) 33 S (pSs (rp σ S) k)) 26 4 (nI (S + 1)) 32 i = if i = S then pSb (rp σ S) k b else τ 32 i := fun i => by simp [w_at]
      have o33 : ∀ i, q_wr (q_wr (q_wr (q_wr (q_wr (q_wr τ 30 S (nI k)) 31 S (nI b)) 34 S (pWr (rp σ S) k (nI b))) 32 S (pSb (rp σ S) k b)) 33 S (pSs (rp σ S) k)) 26 4 (nI (S + 1)) 33 i = if i = S then pSs (rp σ S) k else τ 33 i := fun i => by simp [w_at]
      generalize q_wr (q_wr (q_wr (q_wr (q_wr (q_wr τ 30 S (nI k)) 31 S (nI b)) 34 S (pWr (rp σ S) k (nI b))) 32 S (pSb (rp σ S) k b)) 33 S (pSs (rp σ S) k)) 26 4 (nI (S + 1)) = σ2 at *
      have T : ∀ o, o ≠ 26 → o ≠ 37 → o ≠ 38 → ¬ (1 ≤ o ∧ o ≤ 14) → τ o = σ o := fun o x1 x2 x3 x4 => by rw [t3.1 o x1 x2 x3, F o x4]
      have C : ∀ o, o ≤ 25 → σ2 o = σ1 o := fun o h => by rw [oT o (by omega) (by omega) (by omega) (by omega) (by omega) (by omega), t3.1 o (by omega) (by omega) (by omega)]
      have r7 : ∀ i, i ≤ S → σ2 7 i = σ 7 i := fun i h => by rw [C 7 (by decide), b7, if_neg (by omega)]
      have r2 : ∀ i, i < S → σ2 2 i = σ 2 i := fun i h => by rw [C 2 (by decide), b2, if_neg (by omega)]
      have r3 : ∀ i, i < S → σ2 3 i = σ 3 i := fun i h => by rw [C 3 (by decide), b3, if_neg (by omega)]
      have RP : ∀ n, n ≤ S → rp σ2 n = rp σ n := fun n h => rp_c (by rw [C 1 (by decide), b1]; rfl) (by rw [C 1 (by decide), b1]; rfl) n (fun i hi => r2 i (by omega)) (fun i hi => r3 i (by omega)) (fun i hi => r7 i (by omega))
      refine ⟨σ1, σ2, nI S, a1, F, ?_, ⟨fun o x1 x2 => ?_, fun i hi => ?_⟩, Or.inr ⟨S + 1, by omega, ?_, ?_, ?_, ?_, fun i hi => ?_, fun i hi => ?_, fun i hi hi' => ?_, ?_, ?_, ?_, ?_⟩⟩
      · unfold m_core
        rw [if_neg (show ¬ σ1 26 1 = 0 by rw [e26, g1]; decide), e26, h4, t1, b_some]
        exact mt
      · rw [oT o x1 (by omega) (by omega) (by omega) (by omega) (by omega), t3.1 o x1 (by omega) (by omega)]
      · rw [o26, if_neg (by omega), t3.2 i (by omega)]
      · rw [C 1 (by decide), b1, if_neg (by decide)]; exact h9
      · rw [o26, if_neg (by decide), t3.2 1 (by decide), e26]; exact g1
      · rw [C 1 (by decide), b1, if_pos rfl]
      · rw [o26, if_pos rfl]
      · by_cases e : i = S
        · subst e
          obtain ⟨t, ht, et, et', ets⟩ := s_fl hV.2.1
          refine ⟨k, b, hk, hb, ?_, ?_, ?_, ?_, ?_, ?_, ?_, ?_, ?_, ?_⟩
          · rw [C 2 (by decide), b2, if_pos rfl]
          · rw [C 3 (by decide), b3, if_pos rfl]
          · rw [o30, if_pos rfl]
          · rw [o31, if_pos rfl]
          · rw [RP i (Nat.le_refl _)]; exact ok.2
          · rw [o32, if_pos rfl, C 4 (by decide), b4, if_pos rfl]
          · rw [o33, if_pos rfl, C 5 (by decide), b5, if_pos rfl]
          · rw [C 5 (by decide), b5, if_pos rfl]
            unfold pSs
            by_cases k6 : k = 6
            · rw [if_pos k6]; exact et'
            · rw [if_neg k6]; exact hV.2.1
          · rw [o34, if_pos rfl, C 6 (by decide), b6, if_pos rfl]
          · rw [C 6 (by decide), b6, if_pos rfl]
            exact pWr_01 _ _ _
        · have hi' : i < S := by omega
          have g := G.2.2.2.2.2.1 i hi'
          unfold GS at g ⊢
          rw [C 2 (by decide), b2, if_neg e, C 3 (by decide), b3, if_neg e, o30, if_neg e, o31, if_neg e, o32, if_neg e, o33, if_neg e, o34, if_neg e, C 4 (by decide), b4, if_neg e, C 5 (by decide), b5, if_neg e, C 6 (by decide), b6, if_neg e, RP i (by omega), T 30 (by decide) (by decide) (by decide) (by decide), T 31 (by decide) (by decide) (by decide) (by decide), T 32 (by decide) (by decide) (by decide) (by decide), T 33 (by decide) (by decide) (by decide) (by decide), T 34 (by decide) (by decide) (by decide) (by decide)]
          exact g
      · have x35 : σ2 35 = σ 35 := by rw [oT 35 (by decide) (by decide) (by decide) (by decide) (by decide) (by decide), T 35 (by decide) (by decide) (by decide) (by decide)]
        have x36 : σ2 36 = σ 36 := by rw [oT 36 (by decide) (by decide) (by decide) (by decide) (by decide) (by decide), T 36 (by decide) (by decide) (by decide) (by decide)]
        by_cases e : i = S + 1
        · obtain ⟨n1, n2⟩ := G.2.2.2.2.2.2.2.1 i (by omega) (by omega)
          refine ⟨0, by decide, ?_, Or.inl ⟨rfl, by rw [x36]; exact n1, by rw [x35]; exact n2⟩⟩
          rw [C 7 (by decide), b7, if_pos e]
          rfl
        · have g := G.2.2.2.2.2.2.1 i (by omega)
          unfold GR at g ⊢
          rw [x35, x36, r7 i (by omega)]
          exact g
      · have g := G.2.2.2.2.2.2.2.1 i (by omega) (by omega)
        unfold GN at g ⊢
        rw [oT 35 (by decide) (by decide) (by decide) (by decide) (by decide) (by decide), T 35 (by decide) (by decide) (by decide) (by decide), oT 36 (by decide) (by decide) (by decide) (by decide) (by decide) (by decide), T 36 (by decide) (by decide) (by decide) (by decide)]
        exact g
      · rw [C 1 (by decide), b1, if_neg (by decide), oT 29 (by decide) (by decide) (by decide) (by decide) (by decide) (by decide), T 29 (by decide) (by decide) (by decide) (by decide)]
        exact G.2.2.2.2.2.2.2.2.1
      · rw [C 1 (by decide), b1, if_neg (by decide), oT 29 (by decide) (by decide) (by decide) (by decide) (by decide) (by decide), T 29 (by decide) (by decide) (by decide) (by decide)]
        exact G.2.2.2.2.2.2.2.2.2.1
      · rw [C 8 (by decide), b8, oT 28 (by decide) (by decide) (by decide) (by decide) (by decide) (by decide), T 28 (by decide) (by decide) (by decide) (by decide)]
        exact G.2.2.2.2.2.2.2.2.2.2.1
      · rw [vC_c (o := 9) (C 9 (by decide)) (C 10 (by decide)) (C 11 (by decide)), bv]
        show _ = pObey (pLead (rp σ2 S) (σ2 2 S).toNatClampNeg (σ2 3 S)) (σ2 7 (S + 1)).toNatClampNeg
        rw [RP S (Nat.le_refl _), C 2 (by decide), b2, if_pos rfl, C 3 (by decide), b3, if_pos rfl, C 7 (by decide), b7, if_pos rfl, z_cl (n := k) (by omega)]
        rfl
  · obtain ⟨τ, t1, t2, t3⟩ := m_goTo G (Nat.le_refl S)
    refine ⟨σ, τ, -2, ?_, fun _ _ => rfl, ?_, Fr_m t3, RG_m t3 H'⟩
    · obtain ⟨r, a1, a2⟩ := c_allows 9 σ hk hb (by rw [hv]; exact hV)
      have hr : r = 0 := a2.2 (by rw [hv]; exact ok)
      unfold f_X2_take
      rw [if_neg (show ¬ σ 1 9 = 0 by rw [h9]; decide), a1, b_some, if_pos hr]
    · unfold m_core
      rw [if_neg (show ¬ σ 26 1 = 0 by rw [g1]; decide), h4, t1, b_some]
      unfold f_X6_stroke_J67
      rw [m_won t2.1, b_some]
      by_cases w : pWin (rp σ S) = -4
      · obtain ⟨r, a1, a2⟩ := m_canDo t2 hV hk hb
        rw [if_pos w, a1, b_some, if_pos (a2.2 (fun z => ok ⟨w, z⟩))]
      · rw [if_neg w]
theorem p_stroke {σ : Sg} (H : RG σ) (x y : Int32) : ∃ σ1 σ2 r, f_X5_stroke σ x y = some (σ1, r) ∧ Fc σ σ1 ∧ f_X6_stroke σ1 x y = some (σ2, r) ∧ Fr σ1 σ2 ∧ RG σ2 := by
  have n10 : ¬ (1 : Int32) = 0 := by decide
  have n30 : ¬ (3 : Int32) = 0 := by decide
  have l0 := z_01.1
  have bad : Fc σ σ ∧ Fr σ σ ∧ RG σ := ⟨fun _ _ => rfl, ⟨fun _ _ _ => rfl, fun _ _ => rfl⟩, H⟩
  unfold f_X5_stroke f_X5_stroke_J21 f_X6_stroke f_X6_stroke_J9
  rw [r_within, b_some]
  have eJ : ∀ τ z, f_X6_stroke_J14 τ x y z = if 0 ≤ x ∧ x ≤ 6 then (if z = 0 then f_X6_stroke_J40 τ x y z else if 0 ≤ y ∧ y ≤ 3 then f_X6_stroke_J40 τ x y z else some (τ, -1)) else some (τ, -1) := by
    intro τ z
    unfold f_X6_stroke_J14
    rw [r_in, b_some]
    by_cases h : 0 ≤ x ∧ x ≤ 6
    · rw [if_pos h, if_pos h, if_neg n10]
      by_cases hz : z = 0
      · rw [if_pos hz, if_pos hz]
      · rw [if_neg hz, if_neg hz, r_in, b_some]
        by_cases g : 0 ≤ y ∧ y ≤ 3
        · rw [if_pos g, if_pos g, if_neg n10]
        · rw [if_neg g, if_neg g, if_pos rfl]
    · rw [if_neg h, if_neg h, if_pos rfl]
  by_cases h : ¬ (0 ≤ x ∧ x ≤ 6)
  · refine ⟨σ, σ, -1, ?_, bad.1, ?_, bad.2⟩
    · rw [if_neg h, if_pos rfl]
    · rw [eJ, eJ, if_neg h, if_neg h]
      by_cases e : x = 0
      · rw [if_pos e]
      · rw [if_neg e]
        by_cases e : x = 3
        · rw [if_pos e]
        · rw [if_neg e]
  have h := Classical.not_not.1 h
  rw [if_pos h, if_neg n10]
  obtain ⟨k, hk, rfl⟩ := nI_of2 (x := x) (M := 6) (n := 6) (by decide) (by rw [z_lt]; have := (z_le _ _).1 h.1; omega) h.2
  unfold f_X5_stroke_J26 f_X5_stroke_J42
  simp only [eJ, if_pos h]
  unfold f_X6_stroke_J40
  by_cases ab : nI k = 0 ∨ nI k = 3
  · have sel : ∀ (A B C : Rs), (if nI k = 0 then A else if nI k = 3 then A else C) = A := by
      intro A B C
      by_cases e : nI k = 0
      · rw [if_pos e]
      · rw [if_neg e, if_pos (ab.resolve_left e)]
    by_cases g : ¬ (0 ≤ y ∧ y ≤ 3)
    · refine ⟨σ, σ, -1, ?_, bad.1, ?_, bad.2⟩
      · rw [sel _ (some (σ, 0)), if_neg n10, r_within, b_some, if_neg g, if_pos rfl]
      · rw [sel _ (some (σ, 0)), if_neg n10, if_neg g]
    · have g := Classical.not_not.1 g
      obtain ⟨b, hb, rfl⟩ := z_rng4 g
      obtain ⟨σ1, σ2, r, a1, a2, a3, a4, a5⟩ := p_take H hk hb
      refine ⟨σ1, σ2, r, ?_, a2, ?_, a4, a5⟩
      · rw [sel _ (some (σ, 0)), if_neg n10, r_within, b_some, if_pos g, if_neg n10, if_neg n10, a1, b_some]
      · rw [sel _ (some (σ, 0)), if_neg n10, if_pos g]
        simp only [if_neg n10]
        exact a3
  · have sel : ∀ (A B C : Rs), (if nI k = 0 then A else if nI k = 3 then B else C) = C := by
      intro A B C
      rw [if_neg (fun z => ab (Or.inl z)), if_neg (fun z => ab (Or.inr z))]
    obtain ⟨σ1, σ2, r, a1, a2, a3, a4, a5⟩ := p_take H hk (b := 0) (by decide)
    refine ⟨σ1, σ2, r, ?_, a2, ?_, a4, a5⟩
    · rw [sel, if_pos trivial, if_pos trivial, show f_X2_take σ (nI k) 0 = _ from a1, b_some]
    · rw [sel, if_pos trivial]
      simp only [if_true]
      exact a3
