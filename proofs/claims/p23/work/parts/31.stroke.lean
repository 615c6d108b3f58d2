/-! a stroke -/
def pSb (p : Ps) (k b : Nat) : Int32 := if k = 0 then nI b else if k = 6 then p 11 else p 7
def pSs (p : Ps) (k : Nat) : Int32 := if k = 6 then 1 - p 6 else p 6
def pBeg (k : Nat) : Int32 := if k = 0 ∨ k = 6 then 1 else 0
theorem c_begins (σ : Sg) {k : Nat} (hk : k ≤ 6) : f_X2_begins σ (nI k) = some (σ, pBeg k) := by
  unfold f_X2_begins pBeg
  by_cases a : k = 0
  · rw [if_pos (show nI k = (0 : Int32) by rw [a]; rfl), if_pos (Or.inl a)]
  · rw [if_neg (show ¬ nI k = (0 : Int32) from nI_ne0 (by omega) (by omega))]
    by_cases b : k = 6
    · rw [if_pos (show nI k = (6 : Int32) by rw [b]; rfl), if_pos (Or.inr b)]
    · rw [if_neg (show ¬ nI k = (6 : Int32) from fun e => b ((nI_eq (b := 6) (by omega) (by decide)).1 e)), if_neg (fun z => z.elim a b)]
theorem c_note (σ : Sg) {i : Nat} (hi : i < 150) : f_X2_noteStriker σ (nI i) = some (q_wr (q_wr σ 4 i (σ 9 3)) 5 i (σ 9 2), 0) := by
  unfold f_X2_noteStriker f_X3_inPlay f_X3_side
  rw [b_some, r_set (a := 4) (n := 150) σ _ hi (by decide), b_some, b_some, r_set (a := 5) (n := 150) _ _ hi (by decide), b_some]
  rfl
theorem c_count (σ : Sg) {i : Nat} (hi : i < 150) : f_X2_take_J116 σ (nI i) = some (q_wr (q_wr σ 1 10 (nI (i + 1))) 7 (i + 1) 0, nI i) := by
  unfold f_X2_take_J116
  rw [ls_eq, nI_1, show q_wr σ 1 10 (nI (i + 1)) 1 10 = nI (i + 1) by rw [w_at, if_pos ⟨rfl, rfl⟩], r_set (a := 7) (n := 151) _ _ (show i + 1 < 151 by omega) (by decide), b_some]
theorem c_takes {σ : Sg} {S k b : Nat} (G : GO σ S) (hS : S < 150) (hk : k ≤ 6) (hb : b < 4) (w : pWin (rp σ S) = -4) (hc : pCan (rp σ S) k b) : ∃ σ1, f_X2_take σ (nI k) (nI b) = some (σ1, nI S) ∧ Fc σ σ1 ∧ (∀ j, σ1 1 j = if j = 10 then nI (S + 1) else σ 1 j) ∧ (∀ i, σ1 2 i = if i = S then nI k else σ 2 i) ∧ (∀ i, σ1 3 i = if i = S then nI b else σ 3 i) ∧ (∀ i, σ1 4 i = if i = S then pSb (rp σ S) k b else σ 4 i) ∧ (∀ i, σ1 5 i = if i = S then pSs (rp σ S) k else σ 5 i) ∧ (∀ i, σ1 6 i = if i = S then pWr (rp σ S) k (nI b) else σ 6 i) ∧ (∀ i, σ1 7 i = if i = S + 1 then 0 else σ 7 i) ∧ σ1 8 = σ 8 ∧ vC 9 σ1 = pLead (rp σ S) k (nI b) := by
  have h9 := G.2.1
  have h10 := G.2.2.1
  have hv := G.2.2.2.2.2.1
  have hV := rp_V (GO_P G) S (Nat.le_refl _)
  generalize hp : rp σ S = p at *
  have n10 : ¬ (1 : Int32) = 0 := by decide
  obtain ⟨r, a1, a2⟩ := c_allows 9 σ hk hb (by rw [hv]; exact hV)
  have hr : ¬ r = 0 := fun z => (a2.1 z) (by rw [hv]; exact ⟨w, hc⟩)
  unfold f_X2_take
  rw [if_neg (show ¬ σ 1 9 = 0 by rw [h9]; decide), a1, b_some, if_neg hr, h10, if_pos (show nI S < (150 : Int32) from nI_lt (b := 150) hS (by decide)), l_eq, r_set (a := 2) (n := 150) _ _ hS (by decide), b_some, r_set (a := 3) (n := 150) _ _ hS (by decide), b_some, c_isWrong 9 _ hk, b_some]
  have hv9 : vC 9 (q_wr (q_wr σ 2 S (nI k)) 3 S (nI b)) = p := by rw [vC_c (o := 9) (σ := σ) (by rw [w_ne _ _ _ (by decide), w_ne _ _ _ (by decide)]) (by rw [w_ne _ _ _ (by decide), w_ne _ _ _ (by decide)]) (by rw [w_ne _ _ _ (by decide), w_ne _ _ _ (by decide)])]; exact hv
  rw [hv9]
  have hw : (if pWr p k (nI b) = 0 then f_X2_take_J80 (q_wr (q_wr σ 2 S (nI k)) 3 S (nI b)) (nI k) (nI b) (nI S) (nI S) 0 else f_X2_take_J80 (q_wr (q_wr σ 2 S (nI k)) 3 S (nI b)) (nI k) (nI b) (nI S) (nI S) 1) = f_X2_take_J80 (q_wr (q_wr σ 2 S (nI k)) 3 S (nI b)) (nI k) (nI b) (nI S) (nI S) (pWr p k (nI b)) := by
    rcases pWr_01 p k (nI b) with e | e
    · rw [e, if_pos rfl]
    · rw [e, if_neg n10]
  rw [hw]
  unfold f_X2_take_J80 f_X2_take_J95
  rw [r_set (a := 6) (n := 150) _ _ hS (by decide), b_some, c_begins _ hk, b_some]
  by_cases kb : k = 0 ∨ k = 6
  · have e : pBeg k = 1 := by unfold pBeg; rw [if_pos kb]
    rw [e, if_neg n10]
    have F0 : ∀ o, o ≠ 2 → o ≠ 3 → o ≠ 6 → q_wr (q_wr (q_wr σ 2 S (nI k)) 3 S (nI b)) 6 S (pWr p k (nI b)) o = σ o := fun o x y z => by rw [w_ne _ _ _ z, w_ne _ _ _ y, w_ne _ _ _ x]
    have e2 : ∀ i, q_wr (q_wr (q_wr σ 2 S (nI k)) 3 S (nI b)) 6 S (pWr p k (nI b)) 2 i = if i = S then nI k else σ 2 i := fun i => by simp [w_at]
    have e3 : ∀ i, q_wr (q_wr (q_wr σ 2 S (nI k)) 3 S (nI b)) 6 S (pWr p k (nI b)) 3 i = if i = S then nI b else σ 3 i := fun i => by simp [w_at]
    have e6 : ∀ i, q_wr (q_wr (q_wr σ 2 S (nI k)) 3 S (nI b)) 6 S (pWr p k (nI b)) 6 i = if i = S then pWr p k (nI b) else σ 6 i := fun i => by simp [w_at]
    generalize q_wr (q_wr (q_wr σ 2 S (nI k)) 3 S (nI b)) 6 S (pWr p k (nI b)) = ρ at *
    have hvρ : vC 9 ρ = p := by rw [vC_c (o := 9) (F0 9 (by decide) (by decide) (by decide)) (F0 10 (by decide) (by decide) (by decide)) (F0 11 (by decide) (by decide) (by decide))]; exact hv
    obtain ⟨τ, l1, l2, l3⟩ := c_lead 9 ρ hk hb (by rw [hvρ]; exact hV) (by rw [hvρ]; exact hc)
    rw [hvρ] at l2
    rw [l1, b_some, c_begins _ hk, b_some, e, if_neg n10, c_note _ hS, b_some, c_count _ hS]
    have L : ∀ o, o ≠ 9 → o ≠ 10 → o ≠ 11 → τ o = ρ o := l3
    have t3 : τ 9 3 = pSb p k b := by
      show vC 9 τ 7 = _
      rw [l2]
      unfold pSb
      rcases kb with rfl | rfl
      · rfl
      · rfl
    have t2 : τ 9 2 = pSs p k := by
      show vC 9 τ 6 = _
      rw [l2]
      unfold pSs
      rcases kb with rfl | rfl
      · rfl
      · show upd (upd p 6 (1 - p 6)) (4 + (1 - p 6).toNatClampNeg) (p (4 + (1 - p 6).toNatClampNeg) - 1) 6 = _
        obtain ⟨t, t2, et, -⟩ := s_fl hV.2.1
        rw [et, z_cl (n := t) (by omega), u_ne _ _ (by omega)]
        rfl
    rw [t3, t2]
    refine ⟨_, rfl, fun o ho => ?_, fun j => ?_, fun i => ?_, fun i => ?_, fun i => ?_, fun i => ?_, fun i => ?_, fun i => ?_, ?_, ?_⟩
    · rw [w_ne _ _ _ (by omega), w_ne _ _ _ (by omega), w_ne _ _ _ (by omega), w_ne _ _ _ (by omega), L o (by omega) (by omega) (by omega), F0 o (by omega) (by omega) (by omega)]
    · rw [w_ne _ _ _ (by decide), w_at, w_ne _ _ _ (by decide), w_ne _ _ _ (by decide), L 1 (by decide) (by decide) (by decide), F0 1 (by decide) (by decide) (by decide)]
      simp
    · rw [w_ne _ _ _ (by decide), w_ne _ _ _ (by decide), w_ne _ _ _ (by decide), w_ne _ _ _ (by decide), L 2 (by decide) (by decide) (by decide)]
      exact e2 i
    · rw [w_ne _ _ _ (by decide), w_ne _ _ _ (by decide), w_ne _ _ _ (by decide), w_ne _ _ _ (by decide), L 3 (by decide) (by decide) (by decide)]
      exact e3 i
    · rw [w_ne _ _ _ (by decide), w_ne _ _ _ (by decide), w_ne _ _ _ (by decide), w_at, L 4 (by decide) (by decide) (by decide), F0 4 (by decide) (by decide) (by decide)]
      simp
    · rw [w_ne _ _ _ (by decide), w_ne _ _ _ (by decide), w_at, w_ne _ _ _ (by decide), L 5 (by decide) (by decide) (by decide), F0 5 (by decide) (by decide) (by decide)]
      simp
    · rw [w_ne _ _ _ (by decide), w_ne _ _ _ (by decide), w_ne _ _ _ (by decide), w_ne _ _ _ (by decide), L 6 (by decide) (by decide) (by decide)]
      exact e6 i
    · rw [w_at, w_ne _ _ _ (by decide), w_ne _ _ _ (by decide), w_ne _ _ _ (by decide), L 7 (by decide) (by decide) (by decide), F0 7 (by decide) (by decide) (by decide)]
      simp
    · rw [w_ne _ _ _ (by decide), w_ne _ _ _ (by decide), w_ne _ _ _ (by decide), w_ne _ _ _ (by decide), L 8 (by decide) (by decide) (by decide), F0 8 (by decide) (by decide) (by decide)]
    · rw [vC_c (o := 9) (σ := τ) (by rw [w_ne _ _ _ (by decide), w_ne _ _ _ (by decide), w_ne _ _ _ (by decide), w_ne _ _ _ (by decide)]) (by rw [w_ne _ _ _ (by decide), w_ne _ _ _ (by decide), w_ne _ _ _ (by decide), w_ne _ _ _ (by decide)]) (by rw [w_ne _ _ _ (by decide), w_ne _ _ _ (by decide), w_ne _ _ _ (by decide), w_ne _ _ _ (by decide)])]
      exact l2
  · have e : pBeg k = 0 := by unfold pBeg; rw [if_neg kb]
    rw [e, if_pos rfl, c_note _ hS, b_some]
    have x3 : q_wr (q_wr (q_wr σ 2 S (nI k)) 3 S (nI b)) 6 S (pWr p k (nI b)) 9 3 = pSb p k b := by
      rw [w_ne _ _ _ (by decide), w_ne _ _ _ (by decide), w_ne _ _ _ (by decide)]
      unfold pSb
      rw [if_neg (fun z => kb (Or.inl z)), if_neg (fun z => kb (Or.inr z)), ← hv]
      rfl
    have x2 : q_wr (q_wr (q_wr σ 2 S (nI k)) 3 S (nI b)) 6 S (pWr p k (nI b)) 9 2 = pSs p k := by
      rw [w_ne _ _ _ (by decide), w_ne _ _ _ (by decide), w_ne _ _ _ (by decide)]
      unfold pSs
      rw [if_neg (fun z => kb (Or.inr z)), ← hv]
      rfl
    rw [x3, x2]
    have F0 : ∀ o, o ≠ 2 → o ≠ 3 → o ≠ 4 → o ≠ 5 → o ≠ 6 → q_wr (q_wr (q_wr (q_wr (q_wr σ 2 S (nI k)) 3 S (nI b)) 6 S (pWr p k (nI b))) 4 S (pSb p k b)) 5 S (pSs p k) o = σ o := fun o x y x' y' z => by rw [w_ne _ _ _ y', w_ne _ _ _ x', w_ne _ _ _ z, w_ne _ _ _ y, w_ne _ _ _ x]
    have e2 : ∀ i, q_wr (q_wr (q_wr (q_wr (q_wr σ 2 S (nI k)) 3 S (nI b)) 6 S (pWr p k (nI b))) 4 S (pSb p k b)) 5 S (pSs p k) 2 i = if i = S then nI k else σ 2 i := fun i => by simp [w_at]
    have e3 : ∀ i, q_wr (q_wr (q_wr (q_wr (q_wr σ 2 S (nI k)) 3 S (nI b)) 6 S (pWr p k (nI b))) 4 S (pSb p k b)) 5 S (pSs p k) 3 i = if i = S then nI b else σ 3 i := fun i => by simp [w_at]
    have e4 : ∀ i, q_wr (q_wr (q_wr (q_wr (q_wr σ 2 S (nI k)) 3 S (nI b)) 6 S (pWr p k (nI b))) 4 S (pSb p k b)) 5 S (pSs p k) 4 i = if i = S then pSb p k b else σ 4 i := fun i => by simp [w_at]
    have e5 : ∀ i, q_wr (q_wr (q_wr (q_wr (q_wr σ 2 S (nI k)) 3 S (nI b)) 6 S (pWr p k (nI b))) 4 S (pSb p k b)) 5 S (pSs p k) 5 i = if i = S then pSs p k else σ 5 i := fun i => by simp [w_at]
    have e6 : ∀ i, q_wr (q_wr (q_wr (q_wr (q_wr σ 2 S (nI k)) 3 S (nI b)) 6 S (pWr p k (nI b))) 4 S (pSb p k b)) 5 S (pSs p k) 6 i = if i = S then pWr p k (nI b) else σ 6 i := fun i => by simp [w_at]
    generalize q_wr (q_wr (q_wr (q_wr (q_wr σ 2 S (nI k)) 3 S (nI b)) 6 S (pWr p k (nI b))) 4 S (pSb p k b)) 5 S (pSs p k) = ρ at *
    have hvρ : vC 9 ρ = p := by rw [vC_c (o := 9) (F0 9 (by decide) (by decide) (by decide) (by decide) (by decide)) (F0 10 (by decide) (by decide) (by decide) (by decide) (by decide)) (F0 11 (by decide) (by decide) (by decide) (by decide) (by decide))]; exact hv
    obtain ⟨τ, l1, l2, l3⟩ := c_lead 9 ρ hk hb (by rw [hvρ]; exact hV) (by rw [hvρ]; exact hc)
    rw [hvρ] at l2
    rw [l1, b_some, c_begins _ hk, b_some, e, if_pos rfl, c_count _ hS]
    have L : ∀ o, o ≠ 9 → o ≠ 10 → o ≠ 11 → τ o = ρ o := l3
    refine ⟨_, rfl, fun o ho => ?_, fun j => ?_, fun i => ?_, fun i => ?_, fun i => ?_, fun i => ?_, fun i => ?_, fun i => ?_, ?_, ?_⟩
    · rw [w_ne _ _ _ (by omega), w_ne _ _ _ (by omega), L o (by omega) (by omega) (by omega), F0 o (by omega) (by omega) (by omega) (by omega) (by omega)]
    · rw [w_ne _ _ _ (by decide), w_at, L 1 (by decide) (by decide) (by decide), F0 1 (by decide) (by decide) (by decide) (by decide) (by decide)]
      simp
    · rw [w_ne _ _ _ (by decide), w_ne _ _ _ (by decide), L 2 (by decide) (by decide) (by decide)]
      exact e2 i
    · rw [w_ne _ _ _ (by decide), w_ne _ _ _ (by decide), L 3 (by decide) (by decide) (by decide)]
      exact e3 i
    · rw [w_ne _ _ _ (by decide), w_ne _ _ _ (by decide), L 4 (by decide) (by decide) (by decide)]
      exact e4 i
    · rw [w_ne _ _ _ (by decide), w_ne _ _ _ (by decide), L 5 (by decide) (by decide) (by decide)]
      exact e5 i
    · rw [w_ne _ _ _ (by decide), w_ne _ _ _ (by decide), L 6 (by decide) (by decide) (by decide)]
      exact e6 i
    · rw [w_at, w_ne _ _ _ (by decide), L 7 (by decide) (by decide) (by decide), F0 7 (by decide) (by decide) (by decide) (by decide) (by decide)]
      simp
    · rw [w_ne _ _ _ (by decide), w_ne _ _ _ (by decide), L 8 (by decide) (by decide) (by decide), F0 8 (by decide) (by decide) (by decide) (by decide) (by decide)]
    · rw [vC_c (o := 9) (σ := τ) (by rw [w_ne _ _ _ (by decide), w_ne _ _ _ (by decide)]) (by rw [w_ne _ _ _ (by decide), w_ne _ _ _ (by decide)]) (by rw [w_ne _ _ _ (by decide), w_ne _ _ _ (by decide)])]
      exact l2
theorem k_take {σ : Sg} {S k b : Nat} (G : GO σ S) (hS : S < 150) (hk : k ≤ 6) (hb : b < 4) : f_X2_take σ (nI k) (nI b) = some (σ, -2) ∨ ∃ σ1, f_X2_take σ (nI k) (nI b) = some (σ1, nI S) ∧ Fc σ σ1 ∧ GO σ1 (S + 1) ∧ ∀ n, n ≤ S → rp σ1 n = rp σ n := by
  have h9 := G.2.1
  have h10 := G.2.2.1
  have hv := G.2.2.2.2.2.1
  have hP := GO_P G
  have hV := rp_V hP S (Nat.le_refl _)
  by_cases ok : pWin (rp σ S) = -4 ∧ pCan (rp σ S) k b
  · right
    obtain ⟨σ1, a1, F, b1, b2, b3, b4, b5, b6, b7, b8, bv⟩ := c_takes G hS hk hb ok.1 ok.2
    have RP : ∀ n, n ≤ S → rp σ1 n = rp σ n := fun n h => rp_c (by rw [b1]; rfl) (by rw [b1]; rfl) n (fun i hi => by rw [b2, if_neg (by omega)]) (fun i hi => by rw [b3, if_neg (by omega)]) (fun i hi => by rw [b7, if_neg (by omega)])
    refine ⟨σ1, a1, F, ⟨by omega, ?_, ?_, fun i hi => ?_, fun i hi => ?_, ?_, ?_⟩, RP⟩
    · rw [b1, if_neg (by decide)]; exact h9
    · rw [b1, if_pos rfl]
    · by_cases e : i = S
      · subst e
        obtain ⟨t, ht, et, et', ets⟩ := s_fl hV.2.1
        refine ⟨k, b, hk, hb, ?_, ?_, ?_, ?_, ?_⟩
        · rw [b2, if_pos rfl]
        · rw [b3, if_pos rfl]
        · rw [RP i (Nat.le_refl _)]; exact ok.2
        · rw [b5, if_pos rfl]
          unfold pSs
          by_cases k6 : k = 6
          · rw [if_pos k6]; exact et'
          · rw [if_neg k6]; exact hV.2.1
        · rw [b6, if_pos rfl]
          exact pWr_01 _ _ _
      · have g := G.2.2.2.1 i (by omega)
        unfold GS at g ⊢
        rw [b2, if_neg e, b3, if_neg e, b5, if_neg e, b6, if_neg e, RP i (by omega)]
        exact g
    · by_cases e : i = S + 1
      · exact ⟨0, by decide, by rw [b7, if_pos e]; rfl⟩
      · have g := G.2.2.2.2.1 i (by omega)
        unfold GR at g ⊢
        rw [b7, if_neg e]
        exact g
    · rw [bv]
      show _ = pObey (pLead (rp σ1 S) (σ1 2 S).toNatClampNeg (σ1 3 S)) (σ1 7 (S + 1)).toNatClampNeg
      rw [RP S (Nat.le_refl _), b2, if_pos rfl, b3, if_pos rfl, b7, if_pos rfl, z_cl (n := k) (by omega)]
      rfl
    · have f := G.2.2.2.2.2.2
      unfold FB at f ⊢
      rw [b1, b1, if_neg (by decide), if_neg (by decide)]
      exact f
  · left
    obtain ⟨r, a1, a2⟩ := c_allows 9 σ hk hb (by rw [hv]; exact hV)
    have hr : r = 0 := a2.2 (by rw [hv]; exact ok)
    unfold f_X2_take
    rw [if_neg (show ¬ σ 1 9 = 0 by rw [h9]; decide), a1, b_some, if_pos hr]
theorem k_stroke {σ : Sg} {S k b : Nat} (G : GO σ S) (hS : S < 150) (hk : k ≤ 6) (hb : b < 4) : f_X5_stroke σ (nI k) (nI b) = some (σ, -2) ∨ ∃ σ1, f_X5_stroke σ (nI k) (nI b) = some (σ1, nI S) ∧ Fc σ σ1 ∧ GO σ1 (S + 1) ∧ ∀ n, n ≤ S → rp σ1 n = rp σ n := by
  have n10 : ¬ (1 : Int32) = 0 := by decide
  have wk : (0 : Int32) ≤ nI k ∧ nI k ≤ 6 := ⟨nI_pos' (by omega), nI_le (b := 6) hk (by omega)⟩
  have wb : (0 : Int32) ≤ nI b ∧ nI b ≤ 3 := ⟨nI_pos' (by omega), nI_le (b := 3) (by omega) (by omega)⟩
  unfold f_X5_stroke f_X5_stroke_J21
  rw [r_within, b_some, if_pos wk, if_neg n10]
  unfold f_X5_stroke_J26 f_X5_stroke_J42
  by_cases ab : nI k = 0 ∨ nI k = 3
  · have sel : ∀ (A C : Rs), (if nI k = 0 then A else if nI k = 3 then A else C) = A := by
      intro A C
      by_cases e : nI k = 0
      · rw [if_pos e]
      · rw [if_neg e, if_pos (ab.resolve_left e)]
    rw [sel, if_neg n10, r_within, b_some, if_pos wb, if_neg n10, if_neg n10]
    rcases k_take G hS hk hb with h | ⟨σ1, h, r⟩
    · left
      rw [h, b_some]
    · right
      exact ⟨σ1, by rw [h, b_some], r⟩
  · have sel : ∀ (A B C : Rs), (if nI k = 0 then A else if nI k = 3 then B else C) = C := by
      intro A B C
      rw [if_neg (fun z => ab (Or.inl z)), if_neg (fun z => ab (Or.inr z))]
    rw [sel, if_pos rfl, if_pos rfl]
    rcases k_take G hS hk (b := 0) (by decide) with h | ⟨σ1, h, r⟩
    · left
      rw [show f_X2_take σ (nI k) 0 = _ from h, b_some]
    · right
      exact ⟨σ1, by rw [show f_X2_take σ (nI k) 0 = _ from h, b_some], r⟩
