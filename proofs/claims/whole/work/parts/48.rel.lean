/-! the whole relation; each call keeps it and both answer alike -/
def Rel (xs : Nat → Int32) (σ : Sg) : Prop := σ 105 = xs ∧ RT σ ∧ RR σ ∧ RW σ ∧ RH σ ∧ RLw σ ∧ RG σ
theorem RT_c {σ τ : Sg} (h : ∀ j, j < 5 → τ (100 + j) = σ (100 + j)) (H : RT σ) : RT τ := fun j hj i hi => by rw [h j hj]; exact H j hj i hi
theorem Rel_g {xs : Nat → Int32} {σ σ1 σ2 : Sg} (H : Rel xs σ) (F : Fc2 σ σ1) (K : Fr2 σ1 σ2) (g : RG σ2) (r : RR σ2) : Rel xs σ2 := by
  obtain ⟨h0, h1, -, h3, h4, h5, -⟩ := H
  have T : ∀ o, ¬ (1 ≤ o ∧ o ≤ 14) → o ≠ 22 → o ≠ 26 → ¬ (27 ≤ o ∧ o ≤ 38) → σ2 o = σ o := fun o a b c d => by rw [K.1 o c d, F o a b]
  have T26 : ∀ k, 22 ≤ k → σ2 26 k = σ 26 k := fun k hk => by rw [K.2 k hk, F 26 (by decide) (by decide)]
  refine ⟨by rw [T 105 (by decide) (by decide) (by decide) (by decide)]; exact h0, RT_c (fun j hj => T _ (by omega) (by omega) (by omega) (by omega)) h1, r, RW_c (T 24 (by decide) (by decide) (by decide) (by decide)) (T 44 (by decide) (by decide) (by decide) (by decide)) h3, RH_c (T 25 (by decide) (by decide) (by decide) (by decide)) (T 45 (by decide) (by decide) (by decide) (by decide)) (by rw [T 23 (by decide) (by decide) (by decide) (by decide)]) (T26 31 (by decide)) h4, RLw_c (by rw [T 15 (by decide) (by decide) (by decide) (by decide)]) (T 16 (by decide) (by decide) (by decide) (by decide)) (T 17 (by decide) (by decide) (by decide) (by decide)) (T 18 (by decide) (by decide) (by decide) (by decide)) (T26 27 (by decide)) (T 43 (by decide) (by decide) (by decide) (by decide)) (T 39 (by decide) (by decide) (by decide) (by decide)) (T 40 (by decide) (by decide) (by decide) (by decide)) h5, g⟩
theorem Rel_q {xs : Nat → Int32} {σ σ1 σ2 : Sg} (H : Rel xs σ) (F : Fc σ σ1) (K : Fr σ1 σ2) (g : RG σ2) : Rel xs σ2 :=
  Rel_g H (fun o a _ => F o a) ⟨fun o a b => K.1 o a (by omega), K.2⟩ g (RR_c (by rw [K.1 22 (by decide) (by decide), F 22 (by decide)]) (by rw [K.1 27 (by decide) (by decide), F 27 (by decide)]) H.2.2.1)
/-- a pair of calls: both answer r, and the relation stands -/
def PQ (xs : Nat → Int32) (A : Rs) (B : Sg → Rs) : Prop := ∃ σ1 σ2 r, A = some (σ1, r) ∧ σ1 105 = xs ∧ B σ1 = some (σ2, r) ∧ Rel xs σ2
theorem PQ_same {xs : Nat → Int32} {σ : Sg} (H : Rel xs σ) {A : Rs} {B : Sg → Rs} (h : ∃ r, A = some (σ, r) ∧ B σ = some (σ, r)) : PQ xs A B := by
  obtain ⟨r, a, b⟩ := h
  exact ⟨σ, σ, r, a, H.1, b, H⟩
theorem PQ_game {xs : Nat → Int32} {σ : Sg} (H : Rel xs σ) (x y : Int32) : PQ xs (f_X5_game σ x y) (fun s => f_X6_game s x y) := by
  obtain ⟨σ1, σ2, r, a, b, c, d, e⟩ := p_game H.2.2.2.2.2.2 H.2.2.1 x y
  exact ⟨σ1, σ2, r, a, by rw [b 105 (by decide)]; exact H.1, c, Rel_q H b d e⟩
theorem PQ_stroke {xs : Nat → Int32} {σ : Sg} (H : Rel xs σ) (x y : Int32) : PQ xs (f_X5_stroke σ x y) (fun s => f_X6_stroke s x y) := by
  obtain ⟨σ1, σ2, r, a, b, c, d, e⟩ := p_stroke H.2.2.2.2.2.2 x y
  exact ⟨σ1, σ2, r, a, by rw [b 105 (by decide)]; exact H.1, c, Rel_q H b d e⟩
theorem PQ_state {xs : Nat → Int32} {σ : Sg} (H : Rel xs σ) (x y : Int32) : PQ xs (f_X5_state σ x y) (fun s => f_X6_state s x y) := by
  obtain ⟨σ1, σ2, r, a, b, c, d, e⟩ := p_state H.2.2.2.2.2.2 x y
  exact ⟨σ1, σ2, r, a, by rw [b 105 (by decide)]; exact H.1, c, Rel_q H b d e⟩
theorem PQ_found {xs : Nat → Int32} {σ : Sg} (H : Rel xs σ) (x : Int32) : PQ xs (f_X5_found σ x) (fun s => f_X6_found s x) := by
  obtain ⟨σ1, σ2, r, a, b, c, d, e⟩ := p_found H.2.2.2.2.2.2 H.2.2.2.2.2.1 x
  exact ⟨σ1, σ2, r, a, by rw [b 105 (by decide)]; exact H.1, c, Rel_q H b d e⟩
theorem PQ_settle {xs : Nat → Int32} {σ : Sg} (H : Rel xs σ) : PQ xs (f_X5_settle σ) (fun s => f_X6_settle s) := by
  obtain ⟨σ1, σ2, r, a, b, c, d, e, f⟩ := p_settle H.2.2.2.2.2.2 H.2.2.1
  exact ⟨σ1, σ2, r, a, by rw [b 105 (by decide) (by decide)]; exact H.1, c, Rel_g H b d e f⟩
theorem PQ_index {xs : Nat → Int32} {σ : Sg} (H : Rel xs σ) (x y : Int32) : PQ xs (f_X5_index σ x y) (fun s => f_X6_index s x y) := by
  obtain ⟨σ1, σ2, r, a, b, c, d, e⟩ := p_index σ x y H.2.2.1
  have T : ∀ o, o ≠ 22 → o ≠ 27 → σ2 o = σ o := fun o x y => by rw [d o y, b o x]
  exact ⟨σ1, σ2, r, a, by rw [b 105 (by decide)]; exact H.1, c, Rel_g H (fun o _ h => b o h) ⟨fun o _ h => d o (by omega), fun k _ => by rw [d 26 (by decide)]⟩ (RG_c (fun o ho => T o (by omega) (by omega)) (by rw [T 26 (by decide) (by decide)]) (by rw [T 26 (by decide) (by decide)]) H.2.2.2.2.2.2) e⟩
theorem Rel_w {xs : Nat → Int32} {σ : Sg} (H : Rel xs σ) {σ2 : Sg} (T : ∀ o, o ≠ 24 → o ≠ 44 → σ2 o = σ o) (w : RW σ2) : Rel xs σ2 := by
  obtain ⟨h0, h1, h2, -, h4, h5, h6⟩ := H
  exact ⟨by rw [T 105 (by decide) (by decide)]; exact h0, RT_c (fun j _ => T _ (by omega) (by omega)) h1, RR_c (T 22 (by decide) (by decide)) (T 27 (by decide) (by decide)) h2, w, RH_c (T 25 (by decide) (by decide)) (T 45 (by decide) (by decide)) (by rw [T 23 (by decide) (by decide)]) (by rw [T 26 (by decide) (by decide)]) h4, RLw_c (by rw [T 15 (by decide) (by decide)]) (T 16 (by decide) (by decide)) (T 17 (by decide) (by decide)) (T 18 (by decide) (by decide)) (by rw [T 26 (by decide) (by decide)]) (T 43 (by decide) (by decide)) (T 39 (by decide) (by decide)) (T 40 (by decide) (by decide)) h5, RG_c (fun o _ => T o (by omega) (by omega)) (by rw [T 26 (by decide) (by decide)]) (by rw [T 26 (by decide) (by decide)]) h6⟩
theorem PQ_win {xs : Nat → Int32} {σ : Sg} (H : Rel xs σ) (x y : Int32) : PQ xs (f_X5_win σ x y) (fun s => f_X6_win s x y) := by
  obtain ⟨σ1, σ2, r, a, b, c, d, e⟩ := p_win H.2.1 H.2.2.2.1 x y
  exact ⟨σ1, σ2, r, a, by rw [b 105 (by decide)]; exact H.1, c, Rel_w H (fun o x y => by rw [d o y, b o x]) e⟩
theorem PQ_unwin {xs : Nat → Int32} {σ : Sg} (H : Rel xs σ) (x : Int32) : PQ xs (f_X5_unwin σ x) (fun s => f_X6_unwin s x) := by
  obtain ⟨σ1, σ2, r, a, b, c, d, e⟩ := p_unwin H.2.1 H.2.2.2.1 x
  exact ⟨σ1, σ2, r, a, by rw [b 105 (by decide)]; exact H.1, c, Rel_w H (fun o x y => by rw [d o y, b o x]) e⟩
theorem Rel_h {xs : Nat → Int32} {σ : Sg} (H : Rel xs σ) {σ2 : Sg} (T : ∀ o, o ≠ 25 → o ≠ 45 → σ2 o = σ o) (w : RH σ2) : Rel xs σ2 := by
  obtain ⟨h0, h1, h2, h3, -, h5, h6⟩ := H
  exact ⟨by rw [T 105 (by decide) (by decide)]; exact h0, RT_c (fun j _ => T _ (by omega) (by omega)) h1, RR_c (T 22 (by decide) (by decide)) (T 27 (by decide) (by decide)) h2, RW_c (T 24 (by decide) (by decide)) (T 44 (by decide) (by decide)) h3, w, RLw_c (by rw [T 15 (by decide) (by decide)]) (T 16 (by decide) (by decide)) (T 17 (by decide) (by decide)) (T 18 (by decide) (by decide)) (by rw [T 26 (by decide) (by decide)]) (T 43 (by decide) (by decide)) (T 39 (by decide) (by decide)) (T 40 (by decide) (by decide)) h5, RG_c (fun o _ => T o (by omega) (by omega)) (by rw [T 26 (by decide) (by decide)]) (by rw [T 26 (by decide) (by decide)]) h6⟩
theorem PQ_lay {xs : Nat → Int32} {σ : Sg} (H : Rel xs σ) (x : Int32) : PQ xs (f_X5_lay σ x) (fun s => f_X6_lay s x) := by
  obtain ⟨σ1, σ2, r, a, b, c, d, e⟩ := p_lay H.2.1 H.2.2.2.1 H.2.2.2.2.1 x
  exact ⟨σ1, σ2, r, a, by rw [b 105 (by decide)]; exact H.1, c, Rel_h H (fun o x y => by rw [d o y, b o x]) e⟩
theorem PQ_clear {xs : Nat → Int32} {σ : Sg} (H : Rel xs σ) : PQ xs (f_X5_clear σ) (fun s => f_X6_clear s) := by
  obtain ⟨σ1, σ2, r, a, b, c, d, e⟩ := p_clear H.2.2.2.2.1
  exact ⟨σ1, σ2, r, a, by rw [b 105 (by decide)]; exact H.1, c, Rel_h H (fun o x y => by rw [d o y, b o x]) e⟩
theorem PQ_lawns {xs : Nat → Int32} {σ : Sg} (H : Rel xs σ) (x : Int32) : PQ xs (f_X5_lawns σ x) (fun s => f_X6_lawns s x) := by
  obtain ⟨σ1, σ2, r, a, b, c, d, e⟩ := p_lawns H.2.2.2.2.1 x
  have b' : ∀ o, o ≠ 23 → σ1 o = σ o := fun o ho => funext fun k => b o k (fun z => ho z.1)
  have d' : ∀ o, o ≠ 26 → σ2 o = σ1 o := fun o ho => funext fun k => d o k (fun z => ho z.1)
  have T : ∀ o, o ≠ 23 → o ≠ 26 → σ2 o = σ o := fun o x y => by rw [d' o y, b' o x]
  have T26 : ∀ k, k ≠ 31 → σ2 26 k = σ 26 k := fun k hk => by rw [d 26 k (fun z => hk z.2), b' 26 (by decide)]
  obtain ⟨h0, h1, h2, h3, h4, h5, h6⟩ := H
  exact ⟨σ1, σ2, r, a, by rw [b' 105 (by decide)]; exact h0, c, by rw [T 105 (by decide) (by decide)]; exact h0, RT_c (fun j _ => T _ (by omega) (by omega)) h1, RR_c (T 22 (by decide) (by decide)) (T 27 (by decide) (by decide)) h2, RW_c (T 24 (by decide) (by decide)) (T 44 (by decide) (by decide)) h3, e, RLw_c (by rw [T 15 (by decide) (by decide)]) (T 16 (by decide) (by decide)) (T 17 (by decide) (by decide)) (T 18 (by decide) (by decide)) (T26 27 (by decide)) (T 43 (by decide) (by decide)) (T 39 (by decide) (by decide)) (T 40 (by decide) (by decide)) h5, RG_c (fun o _ => T o (by omega) (by omega)) (T26 1 (by decide)) (T26 4 (by decide)) h6⟩
theorem PQ_type {xs : Nat → Int32} {σ : Sg} (H : Rel xs σ) (w : Int64) (n : Int32) : PQ xs (f_X5_type σ w n) (fun s => f_X6_type s w n) := by
  obtain ⟨σ1, σ2, r, a, b, c, d, e⟩ := p_type H.2.2.2.2.2.1 w n
  have b' : ∀ o, o ≠ 16 → o ≠ 15 → σ1 o = σ o := fun o ho h1 => funext fun k => b o k ho (fun z => h1 z.1)
  have d' : ∀ o, o ≠ 43 → o ≠ 26 → σ2 o = σ1 o := fun o ho h1 => funext fun k => d o k ho (fun z => h1 z.1)
  have T : ∀ o, o ≠ 16 → o ≠ 15 → o ≠ 43 → o ≠ 26 → σ2 o = σ o := fun o x y z u => by rw [d' o z u, b' o x y]
  have T26 : ∀ k, k ≠ 27 → σ2 26 k = σ 26 k := fun k hk => by rw [d 26 k (by decide) (fun z => hk z.2), b' 26 (by decide) (by decide)]
  obtain ⟨h0, h1, h2, h3, h4, h5, h6⟩ := H
  exact ⟨σ1, σ2, r, a, by rw [b' 105 (by decide) (by decide)]; exact h0, c, by rw [T 105 (by decide) (by decide) (by decide) (by decide)]; exact h0, RT_c (fun j _ => T _ (by omega) (by omega) (by omega) (by omega)) h1, RR_c (T 22 (by decide) (by decide) (by decide) (by decide)) (T 27 (by decide) (by decide) (by decide) (by decide)) h2, RW_c (T 24 (by decide) (by decide) (by decide) (by decide)) (T 44 (by decide) (by decide) (by decide) (by decide)) h3, RH_c (T 25 (by decide) (by decide) (by decide) (by decide)) (T 45 (by decide) (by decide) (by decide) (by decide)) (by rw [T 23 (by decide) (by decide) (by decide) (by decide)]) (T26 31 (by decide)) h4, e, RG_c (fun o _ => T o (by omega) (by omega) (by omega) (by omega)) (T26 1 (by decide)) (T26 4 (by decide)) h6⟩
theorem PQ_laws {xs : Nat → Int32} {σ : Sg} (H : Rel xs σ) : PQ xs (f_X5_laws σ) (fun s => f_X6_laws s) := by
  obtain ⟨σ1, σ2, r, a, b, c, d, d26, e⟩ := p_laws H.2.2.2.2.2.1
  have T : ∀ o, ¬ (15 ≤ o ∧ o ≤ 20) → ¬ (39 ≤ o ∧ o ≤ 43) → o ≠ 26 → σ2 o = σ o := fun o x y z => by rw [d o y z, b o x]
  have T26 : ∀ k, k ≠ 27 → k ≠ 28 → σ2 26 k = σ 26 k := fun k h1 h2 => by rw [d26 k h1 h2, b 26 (by decide)]
  obtain ⟨h0, h1, h2, h3, h4, h5, h6⟩ := H
  exact ⟨σ1, σ2, r, a, by rw [b 105 (by decide)]; exact h0, c, by rw [T 105 (by decide) (by decide) (by decide)]; exact h0, RT_c (fun j _ => T _ (by omega) (by omega) (by omega)) h1, RR_c (T 22 (by decide) (by decide) (by decide)) (T 27 (by decide) (by decide) (by decide)) h2, RW_c (T 24 (by decide) (by decide) (by decide)) (T 44 (by decide) (by decide) (by decide)) h3, RH_c (T 25 (by decide) (by decide) (by decide)) (T 45 (by decide) (by decide) (by decide)) (by rw [T 23 (by decide) (by decide) (by decide)]) (T26 31 (by decide) (by decide)) h4, e, RG_c (fun o _ => T o (by omega) (by omega) (by omega)) (T26 1 (by decide) (by decide)) (T26 4 (by decide) (by decide)) h6⟩
