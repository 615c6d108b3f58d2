/-! what may be done, answered by the class -/
theorem c_allowsFree (o : Nat) (σ : Sg) (hV : V (vC o σ)) : ∃ r, f_X3_allowsFree o σ = some (σ, r) ∧ (r = 0 ↔ ¬ (¬ vC o σ 11 = -4 ∧ ¬ vC o σ (vC o σ 11).toNatClampNeg = 7 ∧ ¬ vC o σ (4 + (1 - vC o σ 6).toNatClampNeg) ≤ 0)) := by
  obtain ⟨v7, v6, v11, -⟩ := hV
  unfold f_X3_allowsFree
  by_cases a : vC o σ 11 = -4
  · rw [if_pos (show σ o 7 = -4 from a)]
    exact ⟨0, rfl, by simp [a]⟩
  · obtain ⟨c, c4, ec⟩ := v11.resolve_left a
    rw [if_neg (show ¬ σ o 7 = -4 from a), show σ o 7 = nI c from ec, c_isOut o σ c4, b_some, ec, z_cl (n := c) (by omega)]
    by_cases b : vC o σ c = 7
    · rw [if_pos b, if_neg (by decide)]
      exact ⟨0, rfl, by simp [b]⟩
    · obtain ⟨t, t2, et, et', ets⟩ := s_fl v6
      rw [if_neg b, if_pos rfl, show (1 : Int32) - σ o 2 = nI t from et, r_at (a := o + 2) (n := 2) σ t2 (by decide), b_some, et, z_cl (n := t) (by omega)]
      have e4 : vC o σ (4 + t) = σ (o + 2) t := by
        simp only [vC]
        rw [if_neg (by omega), if_pos (by omega)]
        congr 1
        omega
      rw [e4]
      by_cases d : σ (o + 2) t ≤ 0
      · rw [if_pos d]
        exact ⟨0, rfl, by simp [d]⟩
      · rw [if_neg d]
        exact ⟨1, rfl, by simp [d, b, nb_4 c4]⟩
theorem c_fresh (o : Nat) (σ : Sg) {k b : Nat} (hk : k ≤ 6) (hb : b < 4) (h4 : k ≠ 4) (h0 : k ≠ 0) (h6 : k ≠ 6) (hV : V (vC o σ)) (a7 : ¬ vC o σ 7 = -4) (a10 : vC o σ 10 = -4) : ∃ r, f_X3_allowsFresh o σ (nI k) (nI b) = some (σ, r) ∧ (r = 0 ↔ ¬ pCan (vC o σ) k b) := by
  obtain ⟨v7, -⟩ := hV
  obtain ⟨c, c4, ec⟩ := v7.resolve_left a7
  have e3 : σ o 3 = nI c := ec
  unfold f_X3_allowsFresh
  match k, hk, h4, h0, h6 with
  | 0, _, _, h, _ => exact absurd rfl h
  | 1, _, _, _, _ =>
    rw [if_pos (by decide)]
    exact ⟨1, rfl, by simp [pCan, a7, a10]⟩
  | 2, _, _, _, _ =>
    rw [if_neg (by decide), if_neg (by decide), if_pos (by decide), e3, r_at (a := o + 1) (n := 4) σ c4 (by decide), b_some]
    have e : vC o σ (vC o σ 7).toNatClampNeg = σ (o + 1) c := by rw [ec, z_cl (n := c) (by omega), vC_h σ c4]
    by_cases d : 6 ≤ σ (o + 1) c
    · rw [if_pos d]
      exact ⟨0, rfl, by simp [pCan, e, d]⟩
    · rw [if_neg d]
      exact ⟨1, rfl, by simp [pCan, a7, a10, e, d]⟩
  | 3, _, _, _, _ =>
    rw [if_neg (by decide), if_neg (by decide), if_neg (by decide), if_pos (by decide), e3]
    by_cases d : nI b = nI c
    · rw [if_pos d]
      exact ⟨0, rfl, by simp [pCan, ec, d]⟩
    · rw [if_neg d, c_isOut o σ hb, b_some]
      by_cases f : vC o σ b = 7
      · rw [if_pos f, if_neg (by decide)]
        exact ⟨0, rfl, by simp [pCan, f]⟩
      · rw [if_neg f, if_pos rfl]
        refine ⟨1, rfl, ?_⟩
        simp only [pCan, ec]
        simp [f, d, a10, nb_4 c4]
  | 4, _, h, _, _ => exact absurd rfl h
  | 5, _, _, _, _ =>
    rw [if_neg (by decide), if_neg (by decide), if_neg (by decide), if_neg (by decide), if_neg (by decide), if_pos (by decide), e3, r_at (a := o + 1) (n := 4) σ c4 (by decide), b_some]
    have e : vC o σ (vC o σ 7).toNatClampNeg = σ (o + 1) c := by rw [ec, z_cl (n := c) (by omega), vC_h σ c4]
    by_cases d : σ (o + 1) c = 6
    · rw [if_pos d]
      exact ⟨1, rfl, by simp [pCan, a7, a10, e, d]⟩
    · rw [if_neg d]
      exact ⟨0, rfl, by simp [pCan, e, d]⟩
  | 6, _, _, _, h => exact absurd rfl h
  | n + 7, h, _, _, _ => exact absurd h (by omega)
theorem c_allows (o : Nat) (σ : Sg) {k b : Nat} (hk : k ≤ 6) (hb : b < 4) (hV : V (vC o σ)) : ∃ r, f_X3_allows o σ (nI k) (nI b) = some (σ, r) ∧ (r = 0 ↔ ¬ (pWin (vC o σ) = -4 ∧ pCan (vC o σ) k b)) := by
  unfold f_X3_allows
  rw [c_winner, b_some]
  by_cases w' : ¬ pWin (vC o σ) = -4
  · rw [if_neg w']
    exact ⟨0, rfl, by simp [w']⟩
  have w := Classical.not_not.1 w'
  rw [if_pos w]
  simp only [w, true_and]
  by_cases k0 : k = 0
  · subst k0
    rw [if_pos (show nI 0 = (0 : Int32) from rfl)]
    by_cases a7 : vC o σ 7 = -4
    · rw [if_pos (show σ o 3 = -4 from a7), c_isOut o σ hb, b_some]
      by_cases f : vC o σ b = 7
      · rw [if_pos f, if_neg (by decide)]
        exact ⟨0, rfl, by simp [pCan, f]⟩
      · rw [if_neg f, if_pos rfl]
        exact ⟨1, rfl, by simp [pCan, f, a7]⟩
    · rw [if_neg (show ¬ σ o 3 = -4 from a7)]
      exact ⟨0, rfl, by simp [pCan, a7]⟩
  rw [if_neg (show ¬ nI k = (0 : Int32) from nI_ne0 (by omega) (by omega))]
  by_cases k6 : k = 6
  · subst k6
    rw [if_pos (show nI 6 = (6 : Int32) from rfl)]
    by_cases a7 : vC o σ 7 = -4
    · rw [if_pos (show σ o 3 = -4 from a7)]
      obtain ⟨r, g1, g2⟩ := c_allowsFree o σ hV
      rw [g1, b_some]
      by_cases hr : r = 0
      · rw [if_pos hr]
        refine ⟨0, rfl, iff_of_true rfl (fun z => g2.1 hr z.2)⟩
      · rw [if_neg hr]
        refine ⟨1, rfl, iff_of_false (by decide) (fun z => hr (g2.2 (fun y => z ⟨a7, y⟩)))⟩
    · rw [if_neg (show ¬ σ o 3 = -4 from a7)]
      exact ⟨0, rfl, by simp [pCan, a7]⟩
  rw [if_neg (show ¬ nI k = (6 : Int32) from fun e => k6 ((nI_eq (b := 6) (by omega) (by decide)).1 e))]
  by_cases a7 : vC o σ 7 = -4
  · rw [if_pos (show σ o 3 = -4 from a7)]
    refine ⟨0, rfl, iff_of_true rfl ?_⟩
    match k, hk, k0, k6 with
    | 0, _, h, _ => exact absurd rfl h
    | 1, _, _, _ => simp [pCan, a7]
    | 2, _, _, _ => simp [pCan, a7]
    | 3, _, _, _ => simp [pCan, a7]
    | 4, _, _, _ => simp [pCan, a7]
    | 5, _, _, _ => simp [pCan, a7]
    | 6, _, _, h => exact absurd rfl h
    | n + 7, h, _, _ => exact absurd h (by omega)
  rw [if_neg (show ¬ σ o 3 = -4 from a7)]
  by_cases k4 : k = 4
  · subst k4
    rw [if_pos (show nI 4 = (4 : Int32) from rfl)]
    by_cases a10 : vC o σ 10 = -4
    · rw [if_pos (show σ o 6 = -4 from a10)]
      exact ⟨0, rfl, by simp [pCan, a10]⟩
    · rw [if_neg (show ¬ σ o 6 = -4 from a10)]
      exact ⟨1, rfl, by simp [pCan, a10, a7]⟩
  rw [if_neg (show ¬ nI k = (4 : Int32) from fun e => k4 ((nI_eq (b := 4) (by omega) (by decide)).1 e))]
  by_cases a10 : vC o σ 10 = -4
  · rw [if_pos (show σ o 6 = -4 from a10)]
    obtain ⟨r, g1, g2⟩ := c_fresh o σ hk hb k4 k0 k6 hV a7 a10
    rw [g1, b_some]
    by_cases hr : r = 0
    · rw [if_pos hr]
      exact ⟨0, rfl, iff_of_true rfl (g2.1 hr)⟩
    · rw [if_neg hr]
      exact ⟨1, rfl, iff_of_false (by decide) (fun z => hr (g2.2 z))⟩
  · rw [if_neg (show ¬ σ o 6 = -4 from a10)]
    refine ⟨0, rfl, iff_of_true rfl ?_⟩
    match k, hk, k0, k6, k4 with
    | 0, _, h, _, _ => exact absurd rfl h
    | 1, _, _, _, _ => simp [pCan, a10]
    | 2, _, _, _, _ => simp [pCan, a10]
    | 3, _, _, _, _ => simp [pCan, a10]
    | 4, _, _, _, h => exact absurd rfl h
    | 5, _, _, _, _ => simp [pCan, a10]
    | 6, _, _, h, _ => exact absurd rfl h
    | n + 7, h, _, _, _ => exact absurd h (by omega)
/-- a fault of the stroke -/
def pWr (p : Ps) (k : Nat) (b : Int32) : Int32 := if k = 0 then (if b - b / 2 * 2 = p 6 then 0 else 1) else if k = 3 then (if ((p 9) >>> (b &&& 31)) &&& 1 = 0 then 1 else 0) else 0
theorem pWr_01 (p : Ps) (k : Nat) (b : Int32) : pWr p k b = 0 ∨ pWr p k b = 1 := by
  unfold pWr
  by_cases h0 : k = 0
  · rw [if_pos h0]; by_cases h : b - b / 2 * 2 = p 6
    · rw [if_pos h]; exact Or.inl rfl
    · rw [if_neg h]; exact Or.inr rfl
  · rw [if_neg h0]; by_cases h3 : k = 3
    · rw [if_pos h3]; by_cases h : ((p 9) >>> (b &&& 31)) &&& 1 = 0
      · rw [if_pos h]; exact Or.inr rfl
      · rw [if_neg h]; exact Or.inl rfl
    · rw [if_neg h3]; exact Or.inl rfl
theorem c_isWrong (o : Nat) (σ : Sg) {k : Nat} (hk : k ≤ 6) (b : Int32) : f_X3_isWrong o σ (nI k) b = some (σ, pWr (vC o σ) k b) := by
  unfold f_X3_isWrong pWr
  by_cases k0 : k = 0
  · subst k0
    rw [if_pos (show nI 0 = (0 : Int32) from rfl), if_pos rfl]
    by_cases h : b - b / 2 * 2 = σ o 2
    · rw [if_pos h, if_pos (show b - b / 2 * 2 = vC o σ 6 from h)]
    · rw [if_neg h, if_neg (show ¬ b - b / 2 * 2 = vC o σ 6 from h)]
  · rw [if_neg (show ¬ nI k = (0 : Int32) from nI_ne0 (by omega) (by omega)), if_neg k0]
    by_cases k3 : k = 3
    · subst k3
      rw [if_pos (show nI 3 = (3 : Int32) from rfl), if_pos rfl]
      by_cases h : ((σ o 5) >>> (b &&& 31)) &&& 1 = 0
      · rw [if_pos h, if_pos (show ((vC o σ 9) >>> (b &&& 31)) &&& 1 = 0 from h)]
      · rw [if_neg h, if_neg (show ¬ ((vC o σ 9) >>> (b &&& 31)) &&& 1 = 0 from h)]
    · rw [if_neg (show ¬ nI k = (3 : Int32) from fun e => k3 ((nI_eq (b := 3) (by omega) (by decide)).1 e)), if_neg k3]
/-! what a position tells -/
def pTell (p : Ps) (q : Nat) : Int32 := if q = 0 then p 6 else if q < 5 then p (q + 6) else if q < 9 then p (q - 5) else if q < 11 then p (q - 5) else pWin p
theorem c_tell (o : Nat) (σ : Sg) {q : Nat} (hq : q < 12) : f_X3_tell o σ (nI q) = some (σ, pTell (vC o σ) q) := by
  unfold f_X3_tell f_X3_tell_J112
  match q, hq with
  | 0, _ => rfl
  | 1, _ => rfl
  | 2, _ => rfl
  | 3, _ => rfl
  | 4, _ => rfl
  | 5, _ => exact congrArg (fun z => q_bnd z fun s r => some (s, r)) (r_at (a := o + 1) (n := 4) (k := 0) σ (by decide) (by decide))
  | 6, _ => exact congrArg (fun z => q_bnd z fun s r => some (s, r)) (r_at (a := o + 1) (n := 4) (k := 1) σ (by decide) (by decide))
  | 7, _ => exact congrArg (fun z => q_bnd z fun s r => some (s, r)) (r_at (a := o + 1) (n := 4) (k := 2) σ (by decide) (by decide))
  | 8, _ => exact congrArg (fun z => q_bnd z fun s r => some (s, r)) (r_at (a := o + 1) (n := 4) (k := 3) σ (by decide) (by decide))
  | 9, _ => exact congrArg (fun z => q_bnd z fun s r => some (s, r)) (r_at (a := o + 2) (n := 2) (k := 0) σ (by decide) (by decide))
  | 10, _ => exact congrArg (fun z => q_bnd z fun s r => some (s, r)) (r_at (a := o + 2) (n := 2) (k := 1) σ (by decide) (by decide))
  | 11, _ => exact congrArg (fun z => q_bnd z fun s r => some (s, r)) (c_winner o σ)
  | n + 12, h => exact absurd h (by omega)
