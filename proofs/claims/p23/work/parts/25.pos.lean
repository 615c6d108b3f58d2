/-! the game: positions. 0..3 hoops, 4 5 free turns, 6 side, 7 ball in play, 8 to go, 9 live, 10 must, 11 the ball of the turn that ended -/
abbrev Ps : Type := Nat → Int32
def vC (o : Nat) (σ : Sg) : Ps := fun i => if i < 4 then σ (o + 1) i else if i < 6 then σ (o + 2) (i - 4) else if i < 12 then σ o (i - 4) else 0
theorem vC_o {o k : Nat} (σ : Sg) (v : Int32) (h1 : 2 ≤ k) (h2 : k < 8) : vC o (q_wr σ o k v) = upd (vC o σ) (k + 4) v := by
  funext i
  simp only [vC, upd, w_at]
  by_cases a : i < 4
  · rw [if_pos a, if_neg (by omega), if_neg (by omega), if_pos a]
  · by_cases b : i < 6
    · rw [if_neg a, if_pos b, if_neg (by omega), if_neg (by omega), if_neg a, if_pos b]
    · by_cases c : i < 12
      · rw [if_neg a, if_neg b, if_pos c, if_neg a, if_neg b, if_pos c]
        by_cases d : i = k + 4
        · rw [if_pos ⟨trivial, by omega⟩, if_pos d]
        · rw [if_neg (by omega), if_neg d]
      · rw [if_neg a, if_neg b, if_neg c, if_neg (by omega), if_neg a, if_neg b, if_neg c]
theorem vC_1 {o k : Nat} (σ : Sg) (v : Int32) (h2 : k < 4) : vC o (q_wr σ (o + 1) k v) = upd (vC o σ) k v := by
  funext i
  simp only [vC, upd, w_at]
  by_cases a : i < 4
  · rw [if_pos a, if_pos a]
    by_cases d : i = k
    · rw [if_pos ⟨trivial, d⟩, if_pos d]
    · rw [if_neg (by omega), if_neg d]
  · by_cases b : i < 6
    · rw [if_neg a, if_pos b, if_neg (by omega), if_neg (by omega), if_neg a, if_pos b]
    · by_cases c : i < 12
      · rw [if_neg a, if_neg b, if_pos c, if_neg (by omega), if_neg (by omega), if_neg a, if_neg b, if_pos c]
      · rw [if_neg a, if_neg b, if_neg c, if_neg (by omega), if_neg a, if_neg b, if_neg c]
theorem vC_2 {o k : Nat} (σ : Sg) (v : Int32) (h2 : k < 2) : vC o (q_wr σ (o + 2) k v) = upd (vC o σ) (k + 4) v := by
  funext i
  simp only [vC, upd, w_at]
  by_cases a : i < 4
  · rw [if_pos a, if_neg (by omega), if_neg (by omega), if_pos a]
  · by_cases b : i < 6
    · rw [if_neg a, if_pos b, if_neg a, if_pos b]
      by_cases d : i = k + 4
      · rw [if_pos ⟨trivial, by omega⟩, if_pos d]
      · rw [if_neg (by omega), if_neg d]
    · by_cases c : i < 12
      · rw [if_neg a, if_neg b, if_pos c, if_neg (by omega), if_neg (by omega), if_neg a, if_neg b, if_pos c]
      · rw [if_neg a, if_neg b, if_neg c, if_neg (by omega), if_neg a, if_neg b, if_neg c]
theorem vC_c {o : Nat} {σ σ' : Sg} (h0 : σ' o = σ o) (h1 : σ' (o + 1) = σ (o + 1)) (h2 : σ' (o + 2) = σ (o + 2)) : vC o σ' = vC o σ := by
  unfold vC
  rw [h0, h1, h2]
theorem vC_h {o k : Nat} (σ : Sg) (h : k < 4) : vC o σ k = σ (o + 1) k := by simp [vC, h]
theorem vC_f0 (o : Nat) (σ : Sg) : vC o σ 4 = σ (o + 2) 0 ∧ vC o σ 5 = σ (o + 2) 1 ∧ vC o σ 6 = σ o 2 ∧ vC o σ 7 = σ o 3 ∧ vC o σ 8 = σ o 4 ∧ vC o σ 9 = σ o 5 ∧ vC o σ 10 = σ o 6 ∧ vC o σ 11 = σ o 7 := ⟨rfl, rfl, rfl, rfl, rfl, rfl, rfl, rfl⟩
/-- what stays when a position is moved -/
abbrev Fo (o : Nat) (σ σ' : Sg) : Prop := ∀ o', o' ≠ o → o' ≠ o + 1 → o' ≠ o + 2 → σ' o' = σ o'
theorem Fo_w {o a k : Nat} {σ : Sg} {v : Int32} (h : a = o ∨ a = o + 1 ∨ a = o + 2) : Fo o σ (q_wr σ a k v) := fun o' h0 h1 h2 => w_ne _ _ _ (by omega)
theorem Fo_t {o : Nat} {a b c : Sg} (h1 : Fo o a b) (h2 : Fo o b c) : Fo o a c := fun o' x0 x1 x2 => (h2 o' x0 x1 x2).trans (h1 o' x0 x1 x2)
/-! the moves -/
def pStop (p : Ps) (s : Int32) : Ps := upd (upd (upd (upd (upd (upd p 6 s) 7 (-4)) 8 0) 9 0) 10 (-4)) 11 (-4)
def pEnd (p : Ps) : Ps := if p 7 = -4 then p else upd (pStop p (1 - p 6)) 11 (p 7)
def pO (p : Ps) (b : Int32) (l : Int32) (i : Nat) : Int32 := if nI i = b ∨ p i = 7 then l else l ||| ((1 : Int32) <<< (nI i &&& 31))
def pOth (p : Ps) (b : Int32) : Int32 := pO p b (pO p b (pO p b (pO p b 0 0) 1) 2) 3
def pBring (p : Ps) (b : Int32) : Ps := upd (upd (upd p 7 b) 8 1) 9 (pOth p b)
def pRoq (p : Ps) (b : Int32) : Ps := upd (upd (upd p 8 (p 8 - 1)) 9 (p 9 &&& (((1 : Int32) <<< (b &&& 31)) ^^^ (-1)))) 10 b
def pCro (p : Ps) : Ps := upd (upd p 8 1) 10 (-4)
def pFree (p : Ps) : Ps := upd (upd p 6 (1 - p 6)) (4 + (1 - p 6).toNatClampNeg) (p (4 + (1 - p 6).toNatClampNeg) - 1)
def pB (f0 f1 : Int32) : Ps := fun i => if i < 4 then 0 else if i = 4 then f0 else if i = 5 then f1 else if i = 7 ∨ i = 10 ∨ i = 11 then -4 else 0
def pLead (p : Ps) (k : Nat) (b : Int32) : Ps := match k with
  | 0 => pBring p b
  | 1 => pEnd p
  | 2 => pBring (upd p (p 7).toNatClampNeg (p (p 7).toNatClampNeg + 1)) (p 7)
  | 3 => pRoq p b
  | 4 => pCro p
  | 5 => pEnd (upd p (p 7).toNatClampNeg 7)
  | _ => pBring (pFree p) (p 11)
def pObey (p : Ps) (r : Nat) : Ps := match r with
  | 0 => p
  | 1 => pEnd p
  | r + 2 => pStop p (nI r)
theorem upd_same (f : Ps) (k : Nat) : upd f k (f k) = f := by
  funext i
  simp only [upd]
  by_cases h : i = k
  · rw [if_pos h, h]
  · rw [if_neg h]
theorem upd_two (f : Ps) (k : Nat) (a b : Int32) : upd (upd f k a) k b = upd f k b := by
  funext i
  simp only [upd]
  by_cases h : i = k
  · rw [if_pos h, if_pos h]
  · rw [if_neg h, if_neg h, if_neg h]
theorem c_stop (o : Nat) (σ : Sg) (s : Int32) : ∃ σ', f_X3_stopFor o σ s = some (σ', 0) ∧ vC o σ' = pStop (vC o σ) s ∧ Fo o σ σ' := by
  refine ⟨_, rfl, ?_, ?_⟩
  · rw [vC_o _ _ (by decide) (by decide), vC_o _ _ (by decide) (by decide), vC_o _ _ (by decide) (by decide), vC_o _ _ (by decide) (by decide), vC_o _ _ (by decide) (by decide), vC_o _ _ (by decide) (by decide)]
    rfl
  · exact Fo_t (Fo_t (Fo_t (Fo_t (Fo_t (Fo_w (Or.inl rfl)) (Fo_w (Or.inl rfl))) (Fo_w (Or.inl rfl))) (Fo_w (Or.inl rfl))) (Fo_w (Or.inl rfl))) (Fo_w (Or.inl rfl))
theorem c_end (o : Nat) (σ : Sg) : ∃ σ', f_X3_endTurn o σ = some (σ', 0) ∧ vC o σ' = pEnd (vC o σ) ∧ Fo o σ σ' := by
  unfold f_X3_endTurn
  by_cases h : σ o 3 = -4
  · rw [if_pos h]
    refine ⟨σ, rfl, ?_, fun _ _ _ _ => rfl⟩
    unfold pEnd
    rw [if_pos (show vC o σ 7 = -4 from h)]
  · rw [if_neg h, l_eq]
    obtain ⟨σ', g1, g2, g3⟩ := c_stop o σ (1 - σ o 2)
    rw [g1, b_some, ls_eq]
    refine ⟨_, rfl, ?_, Fo_t g3 (Fo_w (Or.inl rfl))⟩
    rw [vC_o _ _ (by decide) (by decide), g2]
    unfold pEnd
    rw [if_neg (show ¬ vC o σ 7 = -4 from h)]
    rfl
theorem c_brS (o : Nat) (rec : Sg → Int32 → Int32 → Rs) (σ : Sg) (b : Int32) {i : Nat} (hi : i < 4) : ∃ σ', s_X3_bringIn_L17 o rec σ b (nI i) = rec σ' b (nI (i + 1)) ∧ vC o σ' = upd (vC o σ) 9 (pO (vC o σ) b (vC o σ 9) i) ∧ Fo o σ σ' := by
  unfold s_X3_bringIn_L17
  rw [if_neg (show ¬ (4 : Int32) ≤ nI i from nI_ge (b := 4) hi (by omega)), nI_1]
  have same : (nI i = b ∨ vC o σ i = 7) → vC o σ = upd (vC o σ) 9 (pO (vC o σ) b (vC o σ 9) i) := by
    intro h
    unfold pO
    rw [if_pos h, upd_same]
  by_cases h1 : nI i = b
  · rw [if_pos h1, l_eq]
    exact ⟨σ, rfl, same (Or.inl h1), fun _ _ _ _ => rfl⟩
  · rw [if_neg h1, r_at (a := o + 1) (n := 4) σ hi (by decide), b_some]
    by_cases h2 : σ (o + 1) i = 7
    · rw [if_pos h2, l_eq]
      exact ⟨σ, rfl, same (Or.inr (by rw [vC_h σ hi]; exact h2)), fun _ _ _ _ => rfl⟩
    · rw [if_neg h2, ls_eq, l_eq]
      refine ⟨_, rfl, ?_, Fo_w (Or.inl rfl)⟩
      rw [vC_o _ _ (by decide) (by decide)]
      unfold pO
      rw [if_neg (fun z => z.elim h1 (fun z => h2 (by rw [← vC_h σ hi]; exact z)))]
      rfl
theorem pO_9 (p : Ps) (b l v : Int32) {i : Nat} (hi : i < 4) : pO (upd p 9 v) b l i = pO p b l i := by
  unfold pO
  rw [show upd p 9 v i = p i from by simp only [upd]; rw [if_neg (by omega)]]
theorem pO_p {p p' : Ps} (b l : Int32) {i : Nat} (h : p' i = p i) : pO p' b l i = pO p b l i := by
  unfold pO
  rw [h]
theorem c_bring (o : Nat) (σ : Sg) (b : Int32) : ∃ σ', f_X3_bringIn o σ b = some (σ', 0) ∧ vC o σ' = pBring (vC o σ) b ∧ Fo o σ σ' := by
  unfold f_X3_bringIn
  rw [ls_eq, ls_eq, ls_eq]
  have e0 : vC o (q_wr (q_wr (q_wr σ o 3 b) o 4 1) o 5 0) = upd (upd (upd (vC o σ) 7 b) 8 1) 9 0 := by
    rw [vC_o _ _ (by decide) (by decide), vC_o _ _ (by decide) (by decide), vC_o _ _ (by decide) (by decide)]
  have F0 : Fo o σ (q_wr (q_wr (q_wr σ o 3 b) o 4 1) o 5 0) := Fo_t (Fo_t (Fo_w (Or.inl rfl)) (Fo_w (Or.inl rfl))) (Fo_w (Or.inl rfl))
  generalize (q_wr (q_wr (q_wr σ o 3 b) o 4 1) o 5 0) = σ0 at e0 F0
  obtain ⟨σ1, a1, a2, a3⟩ := c_brS o (f_X3_bringIn_L17 o 999) σ0 b (i := 0) (by decide)
  obtain ⟨σ2, b1, b2, b3⟩ := c_brS o (f_X3_bringIn_L17 o 998) σ1 b (i := 1) (by decide)
  obtain ⟨σ3, c1, c2, c3⟩ := c_brS o (f_X3_bringIn_L17 o 997) σ2 b (i := 2) (by decide)
  obtain ⟨σ4, d1, d2, d3⟩ := c_brS o (f_X3_bringIn_L17 o 996) σ3 b (i := 3) (by decide)
  refine ⟨σ4, ?_, ?_, Fo_t (Fo_t (Fo_t (Fo_t F0 a3) b3) c3) d3⟩
  · show s_X3_bringIn_L17 o (f_X3_bringIn_L17 o 999) σ0 b (nI 0) = _
    rw [a1]
    show s_X3_bringIn_L17 o (f_X3_bringIn_L17 o 998) σ1 b (nI 1) = _
    rw [b1]
    show s_X3_bringIn_L17 o (f_X3_bringIn_L17 o 997) σ2 b (nI 2) = _
    rw [c1]
    show s_X3_bringIn_L17 o (f_X3_bringIn_L17 o 996) σ3 b (nI 3) = _
    rw [d1]
    show s_X3_bringIn_L17 o (f_X3_bringIn_L17 o 995) σ4 b (nI 4) = _
    unfold s_X3_bringIn_L17
    rw [if_pos (by decide)]
  · have hp : ∀ i, i < 4 → upd (upd (upd (vC o σ) 7 b) 8 1) 9 0 i = vC o σ i := by
      intro i hi
      simp only [upd]
      rw [if_neg (by omega), if_neg (by omega), if_neg (by omega)]
    rw [d2, c2, b2, a2, e0]
    generalize hq : upd (upd (upd (vC o σ) 7 b) 8 1) 9 0 = p0 at hp
    have h9 : p0 9 = 0 := by rw [← hq]; rfl
    rw [h9]
    simp only [upd_two, show ∀ (f : Ps) (v : Int32), upd f 9 v 9 = v from fun f v => rfl]
    rw [pO_9 _ _ _ _ (by decide), pO_9 _ _ _ _ (by decide), pO_9 _ _ _ _ (by decide)]
    rw [pO_p b _ (hp 0 (by decide)), pO_p b _ (hp 1 (by decide)), pO_p b _ (hp 2 (by decide)), pO_p b _ (hp 3 (by decide)), ← hq, upd_two]
    rfl
