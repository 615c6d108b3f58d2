/-! unwin -/
def m_ld (m : Nat) : Option Nat := ([some 4, some 4, some 5, some 5, some 6, some 6, some 14, some 11, some 11, some 12, some 12, some 13, some 13, some 14, none] : List (Option Nat)).getD m none
def m_chl (m : Nat) : List Nat := ([[0, 4, 6, 14], [1, 4, 6, 14], [2, 5, 6, 14], [3, 5, 6, 14], [4, 6, 14], [5, 6, 14], [6, 14], [7, 11, 13, 14], [8, 11, 13, 14], [9, 12, 13, 14], [10, 12, 13, 14], [11, 13, 14], [12, 13, 14], [13, 14], [14]] : List (List Nat)).getD m []
def m_chO (x : Option Nat) : List Nat := match x with
  | none => []
  | some m => m_chl m
theorem m_ldt : ∀ m, m < 15 → q_tab 4 m = e_c (m_ld m) ∧ m_chl m = m :: m_chO (m_ld m) ∧ m ∉ m_chO (m_ld m) ∧ (∀ x ∈ m_chl m, x < 15 ∧ m ≤ x) ∧ (m_chl m).length ≤ 4 ∧ m_chl m = (List.range 15).filter (fun i => decide (i ∈ m_chl m)) := by decide
theorem m_ldlt {m x : Nat} (hm : m < 15) (h : m_ld m = some x) : x < 15 := by
  obtain ⟨-, h2, -, h4, -⟩ := m_ldt m hm
  refine (h4 x ?_).1
  rw [h2, h]
  have hx : ∀ m, m < 15 → ∀ x, m_ld m = some x → x ∈ m_chl x := by
    intro m hm x hx
    have : ∀ m, m < 15 → (match m_ld m with | none => true | some x => decide (x ∈ m_chl x)) = true := by decide
    have h3 := this m hm
    rw [hx] at h3
    exact of_decide_eq_true h3
  exact List.mem_cons_of_mem _ (hx m hm x h)
def m_cl (w : Nat → Option Nat) (m : Nat) : Nat → Option Nat := fun i => if i = m then none else w i
def m_tb : Nat → (Nat → Option Nat) → Option Nat → Nat → (Nat → Option Nat) × Nat
  | 0, w, _, g => (w, g)
  | _ + 1, w, none, g => (w, g)
  | f + 1, w, some x, g => if w x = none then m_tb f w (m_ld x) g else m_tb f (m_cl w x) (m_ld x) (g + 1)
theorem RWb_cl {w : Nat → Option Nat} (h : RWb w) (m : Nat) : RWb (m_cl w m) := by
  intro i k hk
  by_cases hi : i = m
  · simp [m_cl, hi] at hk
  · simp [m_cl, hi] at hk; exact h i k hk
theorem RWc_cl {σ : Sg} {w : Nat → Option Nat} (h : RWc σ w) (m : Nat) : RWc (q_wr σ 24 m (-4)) (m_cl w m) := by
  intro i hi
  rw [w_at]
  by_cases hm : i = m
  · rw [if_pos ⟨rfl, hm⟩]; simp [m_cl, hm, e_c]
  · rw [if_neg (fun z => hm z.2), h i hi]; simp [m_cl, hm]
theorem RWm_cl {σ : Sg} {w : Nat → Option Nat} (h : RWm σ w) (m : Nat) : RWm (q_wr σ 44 m (-1)) (m_cl w m) := by
  intro i hi
  rw [w_at]
  by_cases hm : i = m
  · rw [if_pos ⟨rfl, hm⟩]; simp [m_cl, hm, e_m]
  · rw [if_neg (fun z => hm z.2), h i hi]; simp [m_cl, hm]
theorem c_tbL : ∀ (f k q : Nat) (σ : Sg) (w : Nat → Option Nat) (x : Option Nat) (g : Nat), k + f = 15 → f < q → RT σ → RWc σ w → RWb w → (∀ y, x = some y → y < 15) → g + f < 64 →
    ∃ σ', f_X1_takeBack_L23 q σ (nI g) (e_c x) (nI k) = some (σ', nI (m_tb f w x g).2) ∧ RWc σ' (m_tb f w x g).1 ∧ ∀ o, o ≠ 24 → σ' o = σ o := by
  intro f
  induction f with
  | zero =>
    intro k q σ w x g hk hq hT h hb hx hg
    obtain ⟨q, rfl⟩ : ∃ p, q = p + 1 := ⟨q - 1, by omega⟩
    refine ⟨σ, ?_, h, fun _ _ => rfl⟩
    show s_X1_takeBack_L23 (f_X1_takeBack_L23 q) σ (nI g) (e_c x) (nI k) = _
    unfold s_X1_takeBack_L23
    rw [if_pos (show (15 : Int32) ≤ nI k from nI_le (a := 15) (by omega) (by omega))]
    rfl
  | succ f ih =>
    intro k q σ w x g hk hq hT h hb hx hg
    obtain ⟨q, rfl⟩ : ∃ p, q = p + 1 := ⟨q - 1, by omega⟩
    have e : f_X1_takeBack_L23 (q + 1) σ (nI g) (e_c x) (nI k) = s_X1_takeBack_L23 (f_X1_takeBack_L23 q) σ (nI g) (e_c x) (nI k) := rfl
    rw [e]
    unfold s_X1_takeBack_L23
    rw [if_neg (show ¬ (15 : Int32) ≤ nI k from nI_ge (b := 15) (by omega) (by omega))]
    cases x with
    | none =>
      rw [if_pos (show e_c none = -4 from rfl)]
      exact ⟨σ, rfl, h, fun _ _ => rfl⟩
    | some y =>
      have hy := hx y rfl
      have hld : ∀ z, m_ld y = some z → z < 15 := fun z hz => m_ldlt hy hz
      obtain ⟨t1, -⟩ := m_ldt y hy
      rw [if_neg (show ¬ e_c (some y) = -4 from (by decide : ∀ k, k < 15 → ¬ nI k = -4) y hy), show e_c (some y) = nI y from rfl, r_at (a := 24) (n := 15) σ hy (by decide), b_some, h y hy]
      by_cases hw : w y = none
      · rw [if_pos (by rw [hw]; rfl), r_at (a := 104) (n := 15) σ hy (by decide), b_some, l_eq, nI_1, show σ 104 y = e_c (m_ld y) from (hT 4 (by decide) y hy).trans t1]
        obtain ⟨σ', g1, g2, g3⟩ := ih (k + 1) q σ w (m_ld y) g (by omega) (by omega) hT h hb hld (by omega)
        refine ⟨σ', ?_, ?_, g3⟩
        · rw [g1]; simp only [m_tb, hw, if_true]
        · simp only [m_tb, hw, if_true]; exact g2
      · rw [if_neg (fun z => hw ((e_c4 (b64 (hb y))).mp z)), r_set (a := 24) (n := 15) σ (-4) hy (by decide), b_some, l_eq, r_at (a := 104) (n := 15) _ hy (by decide), b_some, l_eq, nI_1, nI_1]
        have hT2 : RT (q_wr σ 24 y (-4)) := fun j hj i hi => by rw [w_ne _ _ _ (by omega)]; exact hT j hj i hi
        rw [show q_wr σ 24 y (-4) 104 y = e_c (m_ld y) from (hT2 4 (by decide) y hy).trans t1]
        obtain ⟨σ', g1, g2, g3⟩ := ih (k + 1) q (q_wr σ 24 y (-4)) (m_cl w y) (m_ld y) (g + 1) (by omega) (by omega) hT2 (RWc_cl h y) (RWb_cl hb y) hld (by omega)
        refine ⟨σ', ?_, ?_, fun o ho => (g3 o ho).trans (w_ne _ _ _ ho)⟩
        · rw [g1]; simp only [m_tb, if_neg hw]
        · simp only [m_tb, if_neg hw]; exact g2
/-- what the chain does -/
def m_out (w : Nat → Option Nat) (l : List Nat) : Nat → Option Nat := fun i => if i ∈ l then none else w i
def m_cnt (w : Nat → Option Nat) (l : List Nat) : Nat := (l.filter (fun i => (w i).isSome)).length
theorem m_tb_eq : ∀ (f : Nat) (w : Nat → Option Nat) (x : Option Nat) (g : Nat), (∀ y, x = some y → y < 15) → (m_chO x).length ≤ f → m_tb f w x g = (m_out w (m_chO x), g + m_cnt w (m_chO x)) := by
  intro f
  induction f with
  | zero =>
    intro w x g hx hl
    have : m_chO x = [] := List.length_eq_zero_iff.mp (by omega)
    rw [this]
    simp [m_tb, m_cnt]
    funext i
    simp [m_out]
  | succ f ih =>
    intro w x g hx hl
    cases x with
    | none =>
      simp [m_tb, m_cnt, m_chO]
      funext i
      simp [m_out]
    | some y =>
      have hy := hx y rfl
      obtain ⟨-, h2, h3, -⟩ := m_ldt y hy
      have e : m_chO (some y) = y :: m_chO (m_ld y) := h2
      rw [e] at hl ⊢
      have hl2 : (m_chO (m_ld y)).length ≤ f := by simp at hl; omega
      by_cases hw : w y = none
      · simp only [m_tb, hw, if_true]
        rw [ih w (m_ld y) g (fun z hz => m_ldlt hy hz) hl2]
        congr 1
        · funext i
          by_cases hi : i = y
          · subst hi; simp [m_out, hw]
          · simp [m_out, hi]
        · simp [m_cnt, hw]
      · simp only [m_tb, if_neg hw]
        rw [ih (m_cl w y) (m_ld y) (g + 1) (fun z hz => m_ldlt hy hz) hl2]
        congr 1
        · funext i
          by_cases hi : i = y
          · subst hi; simp [m_out, m_cl]
          · simp [m_out, m_cl, hi]
        · have hs : (w y).isSome = true := by cases h : w y with
            | none => exact absurd h hw
            | some z => rfl
          have : m_cnt (m_cl w y) (m_chO (m_ld y)) = m_cnt w (m_chO (m_ld y)) := by
            unfold m_cnt
            congr 1
            apply List.filter_congr
            intro i hi
            have : i ≠ y := fun z => h3 (z ▸ hi)
            simp [m_cl, this]
          rw [this]
          simp [m_cnt, hs]
          omega
/-- the reference's sweep -/
def m_sw : Nat → (Nat → Option Nat) → Nat → Nat → (Nat → Option Nat) × Nat
  | 0, w, _, n => (w, n)
  | d + 1, w, k, n => if m_fr 0 k = none ∨ w k = none ∨ (m_pl w 0 k ≠ none ∧ m_pl w 1 k ≠ none) then m_sw d w (k + 1) n else m_sw d (m_cl w k) (k + 1) (n + 1)
theorem m_first : ∀ m, m < 15 → (m_fr 0 m = none ↔ (nI m < 4 ∨ ¬ nI m < 7 ∧ ¬ 11 ≤ nI m)) := by decide
theorem r_isFirst (σ : Sg) {m : Nat} (hm : m < 15) : f_X6_isFirst σ (nI m) = some (σ, if m_fr 0 m = none then 1 else 0) := by
  have h := m_first m hm
  unfold f_X6_isFirst
  by_cases a : nI m < 4
  · rw [if_pos a, if_pos (h.mpr (Or.inl a))]
  · rw [if_neg a]
    by_cases b : nI m < 7
    · rw [if_pos b, if_neg (fun z => (h.mp z).elim a (fun q => q.1 b))]
    · rw [if_neg b]
      by_cases c : 11 ≤ nI m
      · rw [if_pos c, if_neg (fun z => (h.mp z).elim a (fun q => q.2 c))]
      · rw [if_neg c, if_pos (h.mpr (Or.inr ⟨b, c⟩))]
theorem m_swL : ∀ (d k q : Nat) (σ : Sg) (w : Nat → Option Nat) (n : Nat), k + d = 15 → d < q → RWm σ w → RWb w → n + d < 64 →
    ∃ σ', f_X6_unwin_L34 q σ (nI n) (nI k) = some (σ', nI (m_sw d w k n).2) ∧ RWm σ' (m_sw d w k n).1 ∧ ∀ o, o ≠ 44 → σ' o = σ o := by
  intro d
  induction d with
  | zero =>
    intro k q σ w n hk hq h hb hn
    obtain ⟨q, rfl⟩ : ∃ p, q = p + 1 := ⟨q - 1, by omega⟩
    refine ⟨σ, ?_, h, fun _ _ => rfl⟩
    show s_X6_unwin_L34 (f_X6_unwin_L34 q) σ (nI n) (nI k) = _
    unfold s_X6_unwin_L34
    rw [if_pos (show (15 : Int32) ≤ nI k from nI_le (a := 15) (by omega) (by omega))]
    rfl
  | succ d ih =>
    intro k q σ w n hk hq h hb hn
    obtain ⟨q, rfl⟩ : ∃ p, q = p + 1 := ⟨q - 1, by omega⟩
    have hk2 : k < 15 := by omega
    have b0 : ∀ z, m_pl w 0 k = some z → z < 64 := fun z hz => by have := m_pl8 hb hk2 (by decide) hz; omega
    have b1 : ∀ z, m_pl w 1 k = some z → z < 64 := fun z hz => by have := m_pl8 hb hk2 (by decide) hz; omega
    have v0 : f_X6_playerOf σ (nI k) 0 = _ := m_who h hb hk2 (j := 0) (by decide)
    have v1 : f_X6_playerOf σ (nI k) 1 = _ := m_who h hb hk2 (j := 1) (by decide)
    have go : (∃ σ', f_X6_unwin_L34 q σ (nI n) (nI (k + 1)) = some (σ', nI (m_sw d w (k + 1) n).2) ∧ RWm σ' (m_sw d w (k + 1) n).1 ∧ ∀ o, o ≠ 44 → σ' o = σ o) := ih (k + 1) q σ w n (by omega) (by omega) h hb (by omega)
    have cl : ∃ σ', f_X6_unwin_J74 (f_X6_unwin_L34 q) σ (nI n) (nI k) = some (σ', nI (m_sw d (m_cl w k) (k + 1) (n + 1)).2) ∧ RWm σ' (m_sw d (m_cl w k) (k + 1) (n + 1)).1 ∧ ∀ o, o ≠ 44 → σ' o = σ o := by
      obtain ⟨σ', g1, g2, g3⟩ := ih (k + 1) q (q_wr σ 44 k (-1)) (m_cl w k) (n + 1) (by omega) (by omega) (RWm_cl h k) (RWb_cl hb k) (by omega)
      refine ⟨σ', ?_, g2, fun o ho => (g3 o ho).trans (w_ne _ _ _ ho)⟩
      unfold f_X6_unwin_J74
      rw [if_neg (o_in hk2 (by decide)), z_cl (show k < 2147483648 by omega), ls_eq, l_eq, l_eq, nI_1, nI_1]
      exact g1
    have e : f_X6_unwin_L34 (q + 1) σ (nI n) (nI k) = s_X6_unwin_L34 (f_X6_unwin_L34 q) σ (nI n) (nI k) := rfl
    rw [e]
    unfold s_X6_unwin_L34
    rw [if_neg (show ¬ (15 : Int32) ≤ nI k from nI_ge (b := 15) (by omega) (by omega)), r_isFirst σ hk2, b_some]
    by_cases q1 : m_fr 0 k = none
    · rw [if_pos q1, if_neg (by decide), l_eq, nI_1]
      obtain ⟨σ', g1, g2, g3⟩ := go
      have e2 : m_sw (d + 1) w k n = m_sw d w (k + 1) n := by show (if _ then _ else _) = _; rw [if_pos (Or.inl q1)]
      rw [e2]
      exact ⟨σ', g1, g2, g3⟩
    · rw [if_neg q1, if_pos rfl, if_neg (o_in hk2 (by decide)), z_cl (show k < 2147483648 by omega), h k hk2]
      simp only [e_m0 (b64 (hb k))]
      by_cases q2 : w k = none
      · rw [if_pos q2, l_eq, nI_1]
        obtain ⟨σ', g1, g2, g3⟩ := go
        have e2 : m_sw (d + 1) w k n = m_sw d w (k + 1) n := by show (if _ then _ else _) = _; rw [if_pos (Or.inr (Or.inl q2))]
        rw [e2]
        exact ⟨σ', g1, g2, g3⟩
      · rw [if_neg q2, v0, b_some]
        simp only [e_m0 b0]
        by_cases q3 : m_pl w 0 k = none
        · rw [if_pos q3]
          obtain ⟨σ', g1, g2, g3⟩ := cl
          have e2 : m_sw (d + 1) w k n = m_sw d (m_cl w k) (k + 1) (n + 1) := by show (if _ then _ else _) = _; rw [if_neg (fun z => z.elim q1 (fun z => z.elim q2 (fun z => z.1 q3)))]
          rw [e2]
          exact ⟨σ', g1, g2, g3⟩
        · rw [if_neg q3, v1, b_some]
          by_cases q4 : m_pl w 1 k = none
          · rw [if_neg (by rw [q4]; decide)]
            obtain ⟨σ', g1, g2, g3⟩ := cl
            have e2 : m_sw (d + 1) w k n = m_sw d (m_cl w k) (k + 1) (n + 1) := by show (if _ then _ else _) = _; rw [if_neg (fun z => z.elim q1 (fun z => z.elim q2 (fun z => z.2 q4)))]
            rw [e2]
            exact ⟨σ', g1, g2, g3⟩
          · have h0 : 0 ≤ e_m (m_pl w 1 k) := by
              cases hz : m_pl w 1 k with
              | none => exact absurd hz q4
              | some z => exact z_ge0 (by have := b1 z hz; omega)
            rw [if_pos h0, l_eq, nI_1]
            obtain ⟨σ', g1, g2, g3⟩ := go
            have e2 : m_sw (d + 1) w k n = m_sw d w (k + 1) n := by show (if _ then _ else _) = _; rw [if_pos (Or.inr (Or.inr ⟨q3, q4⟩))]
            rw [e2]
            exact ⟨σ', g1, g2, g3⟩
theorem m_chf : ∀ m, m < 15 → ∀ k, k < 15 → m < k → (m_fr 0 k = none → k ∉ m_chl m) ∧ ∀ s, m_fr 0 k = some s → ∃ t, m_fr 1 k = some t ∧ s < k ∧ t < k ∧ (k ∈ m_chl m ↔ (s ∈ m_chl m ∨ t ∈ m_chl m)) ∧ (k = 14 → s = 6 ∧ t = 13) := by
  intro m hm k hk hmk
  have h1 : ∀ m, m < 15 → ∀ k, k < 15 → m < k → (match m_fr 0 k, m_fr 1 k with
    | none, _ => decide (k ∉ m_chl m)
    | some s, some t => decide (s < k ∧ t < k ∧ (k ∈ m_chl m ↔ (s ∈ m_chl m ∨ t ∈ m_chl m)) ∧ (k = 14 → s = 6 ∧ t = 13))
    | some _, none => false) = true := by decide +kernel
  have h2 := h1 m hm k hk hmk
  cases h0 : m_fr 0 k with
  | none =>
    rw [h0] at h2
    exact ⟨fun _ => of_decide_eq_true h2, fun s hs => by cases hs⟩
  | some s =>
    cases h3 : m_fr 1 k with
    | none => rw [h0, h3] at h2; cases h2
    | some t =>
      rw [h0, h3] at h2
      exact ⟨fun z => (by cases z), fun s' hs => by cases hs; exact ⟨t, rfl, of_decide_eq_true h2⟩⟩
/-- the sweep, part way -/
def m_wk (w : Nat → Option Nat) (l : List Nat) (k : Nat) : Nat → Option Nat := fun i => if i ∈ l ∧ i < k then none else w i
def m_ck (w : Nat → Option Nat) (l : List Nat) (k : Nat) : Nat := ((List.range k).filter (fun i => decide (i ∈ l) && (w i).isSome)).length
theorem m_ck_s (w : Nat → Option Nat) (l : List Nat) (k : Nat) : m_ck w l (k + 1) = m_ck w l k + if k ∈ l ∧ w k ≠ none then 1 else 0 := by
  unfold m_ck
  rw [List.range_succ, List.filter_append, List.length_append]
  congr 1
  by_cases h : k ∈ l
  · cases hw : w k with
    | none => simp [hw]
    | some z => simp [h, hw]
  · simp [h]
theorem m_sw_eq {w : Nat → Option Nat} {m : Nat} (hm : m < 15) (hc : RMc w) : ∀ (d k : Nat), k + d = 15 → m < k → m_sw d (m_wk w (m_chl m) k) k (m_ck w (m_chl m) k) = (m_wk w (m_chl m) 15, m_ck w (m_chl m) 15) := by
  intro d
  induction d with
  | zero =>
    intro k hk hmk
    have : k = 15 := by omega
    subst this
    rfl
  | succ d ih =>
    intro k hk hmk
    have hk2 : k < 15 := by omega
    have hI := ih (k + 1) (by omega) (by omega)
    have wkk : m_wk w (m_chl m) k k = w k := by simp [m_wk]
    have same : (k ∉ m_chl m ∨ w k = none) → m_wk w (m_chl m) (k + 1) = m_wk w (m_chl m) k := by
      intro hh
      funext i
      by_cases hi : i = k
      · subst hi
        rcases hh with h1 | h1
        · simp [m_wk, h1]
        · simp [m_wk, h1]
      · by_cases h2 : i < k
        · have : i < k + 1 := by omega
          simp [m_wk, h2, this]
        · have : ¬ i < k + 1 := by omega
          simp [m_wk, h2, this]
    have stay : (k ∉ m_chl m ∨ w k = none) → m_sw d (m_wk w (m_chl m) k) (k + 1) (m_ck w (m_chl m) k) = (m_wk w (m_chl m) 15, m_ck w (m_chl m) 15) := by
      intro hh
      rw [← hI, same hh, m_ck_s, if_neg (fun z => hh.elim (fun q => q z.1) z.2)]
      rfl
    obtain ⟨c1, c2⟩ := m_chf m hm k hk2 hmk
    by_cases q1 : m_fr 0 k = none
    · show (if _ then _ else _) = _
      rw [if_pos (Or.inl q1)]
      exact stay (Or.inl (c1 q1))
    · cases hs : m_fr 0 k with
      | none => exact absurd hs q1
      | some s =>
        obtain ⟨t, ht, hsk, htk, hiff, h14⟩ := c2 s hs
        by_cases q2 : w k = none
        · show (if _ then _ else _) = _
          rw [if_pos (Or.inr (Or.inl (by rw [wkk]; exact q2)))]
          exact stay (Or.inr q2)
        · obtain ⟨p0, p1⟩ := hc k hk2 q2
          have ws : w s ≠ none := (m_pl_told.mp p0 s hs).1
          have wt : w t ≠ none := (m_pl_told.mp p1 t ht).1
          have n0 : ∀ s', s' < k → (m_wk w (m_chl m) k s' = if s' ∈ m_chl m then none else w s') := by
            intro s' h1
            simp [m_wk, h1]
          by_cases q3 : k ∈ m_chl m
          · have : ¬ (m_pl (m_wk w (m_chl m) k) 0 k ≠ none ∧ m_pl (m_wk w (m_chl m) k) 1 k ≠ none) := by
              rintro ⟨z0, z1⟩
              have a0 := (m_pl_told.mp z0 s hs).1
              have a1 := (m_pl_told.mp z1 t ht).1
              rw [n0 s hsk] at a0
              rw [n0 t htk] at a1
              rcases hiff.mp q3 with h | h
              · rw [if_pos h] at a0; exact a0 rfl
              · rw [if_pos h] at a1; exact a1 rfl
            show (if _ then _ else _) = _
            rw [if_neg (fun z => z.elim (fun z => q1 z) (fun z => z.elim (fun z => q2 (by rw [← wkk]; exact z)) this)), ← hI]
            have e1 : m_cl (m_wk w (m_chl m) k) k = m_wk w (m_chl m) (k + 1) := by
              funext i
              by_cases hi : i = k
              · subst hi; simp [m_cl, m_wk, q3]
              · by_cases h2 : i < k
                · have : i < k + 1 := by omega
                  simp [m_cl, m_wk, hi, h2, this]
                · have : ¬ i < k + 1 := by omega
                  simp [m_cl, m_wk, hi, h2, this]
            rw [e1, m_ck_s, if_pos ⟨q3, q2⟩]
          · have nots : s ∉ m_chl m ∧ t ∉ m_chl m := ⟨fun z => q3 (hiff.mpr (Or.inl z)), fun z => q3 (hiff.mpr (Or.inr z))⟩
            have told : m_pl (m_wk w (m_chl m) k) 0 k ≠ none ∧ m_pl (m_wk w (m_chl m) k) 1 k ≠ none := by
              have es : m_wk w (m_chl m) k s = w s := by rw [n0 s hsk, if_neg nots.1]
              have et : m_wk w (m_chl m) k t = w t := by rw [n0 t htk, if_neg nots.2]
              have x14 : k = 14 → m_wk w (m_chl m) k 6 ≠ none ∧ m_wk w (m_chl m) k 13 ≠ none ∧ m_wk w (m_chl m) k 6 ≠ m_wk w (m_chl m) k 13 := by
                intro h
                obtain ⟨e6, e13⟩ := h14 h
                subst e6; subst e13
                rw [es, et]
                exact (m_pl_told.mp p0 6 hs).2 h
              refine ⟨m_pl_told.mpr (fun s' h' => ?_), m_pl_told.mpr (fun s' h' => ?_)⟩
              · rw [hs] at h'; cases h'
                exact ⟨by rw [es]; exact ws, x14⟩
              · rw [ht] at h'; cases h'
                exact ⟨by rw [et]; exact wt, x14⟩
            show (if _ then _ else _) = _
            rw [if_pos (Or.inr (Or.inr told))]
            exact stay (Or.inl q3)
