/-! the reference's positions -/
def SM (τ : Sg) (p : Ps) : Prop := (∀ i, i < 4 → τ 37 i = p i) ∧ (∀ i, i < 2 → τ 38 i = p (4 + i)) ∧ τ 26 15 = p 7 ∧ τ 26 16 = p 8 ∧ τ 26 17 = p 9 ∧ τ 26 18 = p 10 ∧ (p 7 = -4 → τ 26 14 = p 6 ∧ (p 11 = -4 ∧ τ 26 19 < 0 ∨ ¬ p 11 = -4 ∧ τ 26 19 = p 11 ∧ τ 26 20 = 1 - p 6)) ∧ (¬ p 7 = -4 → τ 26 21 = p 6)
/-- what stays when the reference moves its position -/
abbrev Fm (σ τ : Sg) : Prop := (∀ o, o ≠ 26 → o ≠ 37 → o ≠ 38 → τ o = σ o) ∧ ∀ k, (k < 14 ∨ 21 < k) → τ 26 k = σ 26 k
theorem Fm_t {a b c : Sg} (h1 : Fm a b) (h2 : Fm b c) : Fm a c := ⟨fun o x y z => (h2.1 o x y z).trans (h1.1 o x y z), fun k x => (h2.2 k x).trans (h1.2 k x)⟩
theorem Fm_r (a : Sg) : Fm a a := ⟨fun _ _ _ _ => rfl, fun _ _ => rfl⟩
theorem Fm_26 {σ : Sg} {k : Nat} (v : Int32) (h : 14 ≤ k ∧ k ≤ 21) : Fm σ (q_wr σ 26 k v) := ⟨fun o x _ _ => w_ne _ _ _ x, fun j hj => by rw [w_at, if_neg (by omega)]⟩
theorem Fm_37 {σ : Sg} (k : Nat) (v : Int32) : Fm σ (q_wr σ 37 k v) := ⟨fun o _ x _ => w_ne _ _ _ x, fun j hj => by rw [w_at, if_neg (by omega)]⟩
theorem Fm_38 {σ : Sg} (k : Nat) (v : Int32) : Fm σ (q_wr σ 38 k v) := ⟨fun o _ _ x => w_ne _ _ _ x, fun j hj => by rw [w_at, if_neg (by omega)]⟩
theorem m_won {τ : Sg} {p : Ps} (h : ∀ i, i < 4 → τ 37 i = p i) : f_X6_won τ = some (τ, pWin p) := by
  have h0 := h 0 (by decide)
  have h1 := h 1 (by decide)
  have h2 := h 2 (by decide)
  have h3 := h 3 (by decide)
  have o0 : ¬ q_oob (0 : Int32) 4 := by decide
  have o1 : ¬ q_oob (1 : Int32) 4 := by decide
  have o2 : ¬ q_oob (2 : Int32) 4 := by decide
  have o3 : ¬ q_oob (3 : Int32) 4 := by decide
  unfold f_X6_won f_X6_won_J26 pWin
  rw [if_neg o0, if_neg o1]
  show (if τ 37 0 = 7 then if q_oob (2 : Int32) 4 then none else if τ 37 2 = 7 then some (τ, 0) else if τ 37 1 = 7 then if q_oob (3 : Int32) 4 then none else if τ 37 3 = 7 then some (τ, 1) else some (τ, -4) else some (τ, -4) else if τ 37 1 = 7 then if q_oob (3 : Int32) 4 then none else if τ 37 3 = 7 then some (τ, 1) else some (τ, -4) else some (τ, -4)) = _
  rw [if_neg o2, if_neg o3, h0, h1, h2, h3]
  by_cases a0 : p 0 = 7 <;> by_cases a1 : p 1 = 7 <;> by_cases a2 : p 2 = 7 <;> by_cases a3 : p 3 = 7 <;> simp [a0, a1, a2, a3]
theorem m_othS {τ : Sg} {p : Ps} (h : ∀ i, i < 4 → τ 37 i = p i) (rec : Sg → Int32 → Int32 → Rs) (x : Int32) {i : Nat} (hi : i < 4) : s_X6_others_L4 rec τ x (nI i) = rec τ (pO p (τ 26 15) x i) (nI (i + 1)) := by
  unfold s_X6_others_L4 pO
  rw [if_neg (show ¬ (4 : Int32) ≤ nI i from nI_ge (b := 4) hi (by omega)), nI_1]
  have x0 : x ||| 0 = x := by simp
  by_cases a : nI i = τ 26 15
  · rw [if_pos a, if_pos (Or.inl a), l_eq, l_eq, x0]
  · rw [if_neg a, if_neg (o_in hi (by decide)), z_cl (n := i) (by omega), h i hi]
    by_cases b : p i = 7
    · rw [if_pos b, if_pos (Or.inr b), l_eq, l_eq, x0]
    · rw [if_neg b, if_neg (fun z => z.elim a b), l_eq, l_eq]
theorem m_others {τ : Sg} {p : Ps} (h : ∀ i, i < 4 → τ 37 i = p i) : f_X6_others τ = some (τ, pOth p (τ 26 15)) := by
  show s_X6_others_L4 (f_X6_others_L4 999) τ 0 (nI 0) = _
  rw [m_othS h _ _ (by decide)]
  show s_X6_others_L4 (f_X6_others_L4 998) τ _ (nI 1) = _
  rw [m_othS h _ _ (by decide)]
  show s_X6_others_L4 (f_X6_others_L4 997) τ _ (nI 2) = _
  rw [m_othS h _ _ (by decide)]
  show s_X6_others_L4 (f_X6_others_L4 996) τ _ (nI 3) = _
  rw [m_othS h _ _ (by decide)]
  show s_X6_others_L4 (f_X6_others_L4 995) τ _ (nI 4) = _
  unfold s_X6_others_L4
  rw [if_pos (by decide)]
  rfl
theorem pOth_p {p p' : Ps} (b : Int32) (h : ∀ i, i < 4 → p' i = p i) : pOth p' b = pOth p b := by
  unfold pOth
  rw [pO_p b _ (h 0 (by decide)), pO_p b _ (h 1 (by decide)), pO_p b _ (h 2 (by decide)), pO_p b _ (h 3 (by decide))]
theorem m_begin {τ : Sg} {p : Ps} {b : Nat} {t : Int32} (hb : b < 4) (h : ∀ i, i < 4 → τ 37 i = p i) (h8 : ∀ i, i < 2 → τ 38 i = p (4 + i)) (h10 : p 10 = -4) (ht : t = p 6) : ∃ τ', f_X6_begin τ (nI b) t = some (τ', 0) ∧ SM τ' (pBring p (nI b)) ∧ Fm τ τ' := by
  unfold f_X6_begin
  rw [ls_eq, ls_eq, ls_eq, ls_eq]
  have F0 : Fm τ (q_wr (q_wr (q_wr (q_wr τ 26 15 (nI b)) 26 21 t) 26 16 1) 26 18 (-4)) := Fm_t (Fm_t (Fm_t (Fm_26 _ (by decide)) (Fm_26 _ (by decide))) (Fm_26 _ (by decide))) (Fm_26 _ (by decide))
  have e37 : (q_wr (q_wr (q_wr (q_wr τ 26 15 (nI b)) 26 21 t) 26 16 1) 26 18 (-4)) 37 = τ 37 := by simp only [w_ne _ _ _ (show (37 : Nat) ≠ 26 by decide)]
  have e38 : (q_wr (q_wr (q_wr (q_wr τ 26 15 (nI b)) 26 21 t) 26 16 1) 26 18 (-4)) 38 = τ 38 := by simp only [w_ne _ _ _ (show (38 : Nat) ≠ 26 by decide)]
  have e15 : (q_wr (q_wr (q_wr (q_wr τ 26 15 (nI b)) 26 21 t) 26 16 1) 26 18 (-4)) 26 15 = nI b := by simp [w_at]
  have e16 : (q_wr (q_wr (q_wr (q_wr τ 26 15 (nI b)) 26 21 t) 26 16 1) 26 18 (-4)) 26 16 = 1 := by simp [w_at]
  have e18 : (q_wr (q_wr (q_wr (q_wr τ 26 15 (nI b)) 26 21 t) 26 16 1) 26 18 (-4)) 26 18 = -4 := by simp [w_at]
  have e21 : (q_wr (q_wr (q_wr (q_wr τ 26 15 (nI b)) 26 21 t) 26 16 1) 26 18 (-4)) 26 21 = t := by simp [w_at]
  generalize (q_wr (q_wr (q_wr (q_wr τ 26 15 (nI b)) 26 21 t) 26 16 1) 26 18 (-4)) = τ1 at *
  rw [m_others (p := p) (by rw [e37]; exact h), b_some, ls_eq, e15]
  refine ⟨_, rfl, ⟨fun i hi => ?_, fun i hi => ?_, ?_, ?_, ?_, ?_, fun a => absurd a (nb_4 hb), fun _ => ?_⟩, Fm_t F0 (Fm_26 _ (by decide))⟩
  · rw [w_ne _ _ _ (by decide), e37, h i hi]
    simp only [pBring]
    rw [u_ne _ _ (by omega), u_ne _ _ (by omega), u_ne _ _ (by omega)]
  · rw [w_ne _ _ _ (by decide), e38, h8 i hi]
    simp only [pBring]
    rw [u_ne _ _ (by omega), u_ne _ _ (by omega), u_ne _ _ (by omega)]
  · rw [w_at, if_neg (by decide)]; exact e15
  · rw [w_at, if_neg (by decide)]; exact e16
  · rw [w_at, if_pos ⟨rfl, rfl⟩]; rfl
  · rw [w_at, if_neg (by decide), e18]; exact h10.symm
  · rw [w_at, if_neg (by decide), e21]; exact ht
theorem pStop_lo (p : Ps) (s : Int32) {i : Nat} (h : i < 6) : pStop p s i = p i := by
  unfold pStop
  rw [u_ne _ _ (by omega), u_ne _ _ (by omega), u_ne _ _ (by omega), u_ne _ _ (by omega), u_ne _ _ (by omega), u_ne _ _ (by omega)]
theorem m_end {τ : Sg} {p : Ps} (h : ∀ i, i < 4 → τ 37 i = p i) (h8 : ∀ i, i < 2 → τ 38 i = p (4 + i)) (h15 : τ 26 15 = p 7) (h7 : ¬ p 7 = -4) (h21 : τ 26 21 = p 6) (v6 : p 6 = nI 0 ∨ p 6 = nI 1) : ∃ τ', f_X6_endTurn τ = some (τ', 0) ∧ SM τ' (pEnd p) ∧ Fm τ τ' := by
  obtain ⟨t, t2, et, et', ets⟩ := s_fl v6
  unfold f_X6_endTurn pEnd
  rw [if_neg h7]
  simp only [ls_eq]
  have F0 := Fm_t (Fm_t (Fm_t (Fm_t (Fm_t (Fm_t (Fm_26 (σ := τ) (τ 26 15) (k := 19) (by decide)) (Fm_26 (k := 20) (q_wr τ 26 19 (τ 26 15) 26 21) (by decide))) (Fm_26 (k := 14) (1 - q_wr (q_wr τ 26 19 (τ 26 15)) 26 20 (q_wr τ 26 19 (τ 26 15) 26 21) 26 21) (by decide))) (Fm_26 (k := 15) (-4) (by decide))) (Fm_26 (k := 16) 0 (by decide))) (Fm_26 (k := 17) 0 (by decide))) (Fm_26 (k := 18) (-4) (by decide))
  refine ⟨_, rfl, ⟨fun i hi => ?_, fun i hi => ?_, ?_, ?_, ?_, ?_, fun _ => ⟨?_, Or.inr ⟨h7, ?_, ?_⟩⟩, fun a => absurd rfl a⟩, F0⟩
  · simp only [w_ne _ _ _ (show (37 : Nat) ≠ 26 by decide)]
    rw [h i hi, u_ne _ _ (by omega), pStop_lo _ _ (by omega)]
  · simp only [w_ne _ _ _ (show (38 : Nat) ≠ 26 by decide)]
    rw [h8 i hi, u_ne _ _ (by omega), pStop_lo _ _ (by omega)]
  · simp [w_at]; rfl
  · simp [w_at]; rfl
  · simp [w_at]; rfl
  · simp [w_at]; rfl
  · simp [w_at, h21]; rfl
  · simp [w_at, h15]; rfl
  · simp [w_at, h21]; exact ets.symm
theorem m_stop {τ : Sg} {p : Ps} (h : ∀ i, i < 4 → τ 37 i = p i) (h8 : ∀ i, i < 2 → τ 38 i = p (4 + i)) (s : Int32) : ∃ τ', f_X6_turnTo τ s = some (τ', 0) ∧ SM τ' (pStop p s) ∧ Fm τ τ' := by
  unfold f_X6_turnTo
  simp only [ls_eq]
  have F0 := Fm_t (Fm_t (Fm_t (Fm_t (Fm_t (Fm_26 (σ := τ) s (k := 14) (by decide)) (Fm_26 (k := 15) (-4) (by decide))) (Fm_26 (k := 16) 0 (by decide))) (Fm_26 (k := 17) 0 (by decide))) (Fm_26 (k := 18) (-4) (by decide))) (Fm_26 (k := 19) (-1) (by decide))
  refine ⟨_, rfl, ⟨fun i hi => ?_, fun i hi => ?_, ?_, ?_, ?_, ?_, fun _ => ⟨?_, Or.inl ⟨rfl, ?_⟩⟩, fun a => absurd rfl a⟩, F0⟩
  · simp only [w_ne _ _ _ (show (37 : Nat) ≠ 26 by decide)]
    rw [h i hi, pStop_lo _ _ (by omega)]
  · simp only [w_ne _ _ _ (show (38 : Nat) ≠ 26 by decide)]
    rw [h8 i hi, pStop_lo _ _ (by omega)]
  · simp [w_at]; rfl
  · simp [w_at]; rfl
  · simp [w_at]; rfl
  · simp [w_at]; rfl
  · simp [w_at]; rfl
  · simp [w_at]
theorem m_isWrong {τ : Sg} {p : Ps} (h : SM τ p) {k b : Nat} (hk : k ≤ 6) (hc : pCan p k b) (x : Int32) : f_X6_isWrong τ (nI k) x = some (τ, pWr p k x) := by
  unfold f_X6_isWrong pWr
  by_cases k0 : k = 0
  · subst k0
    rw [if_pos (show nI 0 = (0 : Int32) from rfl), if_pos rfl, (h.2.2.2.2.2.2.1 hc.1).1]
    by_cases g : x - x / 2 * 2 = p 6
    · rw [if_pos g, if_pos g]
    · rw [if_neg g, if_neg g]
  · rw [if_neg (show ¬ nI k = (0 : Int32) from nI_ne0 (by omega) (by omega)), if_neg k0]
    by_cases k3 : k = 3
    · subst k3
      rw [if_pos (show nI 3 = (3 : Int32) from rfl), if_pos rfl, h.2.2.2.2.1]
      by_cases g : ((p 9) >>> (x &&& 31)) &&& 1 = 0
      · rw [if_pos g, if_pos g]
      · rw [if_neg g, if_neg g]
    · rw [if_neg (show ¬ nI k = (3 : Int32) from fun e => k3 ((nI_eq (b := 3) (by omega) (by decide)).1 e)), if_neg k3]
