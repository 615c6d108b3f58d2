/-! the first state: both constructors -/
theorem z_clr {σ : Sg} {o : Nat} (h : ∀ i, σ o i = 0) : q_clr σ o = σ := by
  funext o' i
  rw [c_at]
  by_cases e : o' = o
  · rw [if_pos e, e, h i]
  · rw [if_neg e]
theorem i_35 : ∀ (d k q : Nat) (τ : Sg), k + d = 151 → d < q → ∃ τ', f_X6_init_26_L270 q τ (nI k) = some (τ', 0) ∧ ∀ o, o ≠ 35 → τ' o = τ o := by
  intro d
  induction d with
  | zero =>
    intro k q τ hk hq
    obtain ⟨q, rfl⟩ : ∃ p, q = p + 1 := ⟨q - 1, by omega⟩
    have : k = 151 := by omega
    subst this
    refine ⟨τ, ?_, fun _ _ => rfl⟩
    show s_X6_init_26_L270 (f_X6_init_26_L270 q) τ (nI 151) = _
    unfold s_X6_init_26_L270
    rw [if_pos (by decide)]
  | succ d ih =>
    intro k q τ hk hq
    obtain ⟨q, rfl⟩ : ∃ p, q = p + 1 := ⟨q - 1, by omega⟩
    obtain ⟨q', g, h2⟩ := ih (k + 1) q (q_wr τ 35 k (-1)) (by omega) (by omega)
    refine ⟨q', ?_, fun o a => by rw [h2 o a, w_ne _ _ _ a]⟩
    show s_X6_init_26_L270 (f_X6_init_26_L270 q) τ (nI k) = _
    unfold s_X6_init_26_L270
    rw [if_neg (show ¬ (151 : Int32) ≤ nI k from nI_ge (b := 151) (by omega) (by decide)), if_neg (o_in (k := k) (n := 151) (by omega) (by decide)), z_cl (n := k) (by omega), ls_eq, l_eq, nI_1]
    exact g
theorem i_44 : ∀ (d k q : Nat) (τ : Sg), k + d = 15 → d < q → ∃ τ', f_X6_init_26_L242 q τ (nI k) = some (τ', 0) ∧ (∀ o, o ≠ 35 → o ≠ 44 → o ≠ 45 → τ' o = τ o) ∧ ∀ i, i < 15 → τ' 44 i = (if k ≤ i then -1 else τ 44 i) ∧ τ' 45 i = if k ≤ i then -1 else τ 45 i := by
  intro d
  induction d with
  | zero =>
    intro k q τ hk hq
    obtain ⟨q, rfl⟩ : ∃ p, q = p + 1 := ⟨q - 1, by omega⟩
    have : k = 15 := by omega
    subst this
    obtain ⟨τ', g, h⟩ := i_35 151 0 1000 τ (by omega) (by omega)
    refine ⟨τ', ?_, fun o a _ _ => h o a, fun i hi => ?_⟩
    · show s_X6_init_26_L242 (f_X6_init_26_L242 q) τ (nI 15) = _
      unfold s_X6_init_26_L242
      rw [if_pos (by decide)]
      exact g
    · rw [if_neg (by omega), if_neg (by omega), h 44 (by decide), h 45 (by decide)]
      exact ⟨rfl, rfl⟩
  | succ d ih =>
    intro k q τ hk hq
    obtain ⟨q, rfl⟩ : ∃ p, q = p + 1 := ⟨q - 1, by omega⟩
    obtain ⟨q', g, h2, h3⟩ := ih (k + 1) q (q_wr (q_wr τ 44 k (-1)) 45 k (-1)) (by omega) (by omega)
    refine ⟨q', ?_, fun o a b c => by rw [h2 o a b c, w_ne _ _ _ c, w_ne _ _ _ b], fun i hi => ?_⟩
    · show s_X6_init_26_L242 (f_X6_init_26_L242 q) τ (nI k) = _
      unfold s_X6_init_26_L242
      have ok : ¬ q_oob (nI k) 15 := o_in (k := k) (n := 15) (by omega) (by decide)
      rw [if_neg (show ¬ (15 : Int32) ≤ nI k from nI_ge (b := 15) (by omega) (by decide)), if_neg ok, ls_eq, if_neg ok, ls_eq, z_cl (n := k) (by omega), l_eq, nI_1]
      exact g
    · have e44 : q_wr (q_wr τ 44 k (-1)) 45 k (-1) 44 i = if i = k then -1 else τ 44 i := by
        rw [w_ne _ _ _ (by decide), w_at]
        simp
      have e45 : q_wr (q_wr τ 44 k (-1)) 45 k (-1) 45 i = if i = k then -1 else τ 45 i := by
        rw [w_at, w_ne _ _ _ (by decide)]
        simp
      obtain ⟨a, b⟩ := h3 i hi
      rw [a, b, e44, e45]
      by_cases e : i = k
      · rw [if_neg (show ¬ k + 1 ≤ i by omega), if_neg (show ¬ k + 1 ≤ i by omega), if_pos e, if_pos e, if_pos (show k ≤ i by omega), if_pos (show k ≤ i by omega)]
        exact ⟨rfl, rfl⟩
      · rw [if_neg e, if_neg e]
        by_cases g' : k + 1 ≤ i
        · rw [if_pos g', if_pos g', if_pos (show k ≤ i by omega), if_pos (show k ≤ i by omega)]
          exact ⟨rfl, rfl⟩
        · rw [if_neg g', if_neg g', if_neg (show ¬ k ≤ i by omega), if_neg (show ¬ k ≤ i by omega)]
          exact ⟨rfl, rfl⟩
theorem i_class {s : Sg} (hz : ∀ o, o < 100 → ∀ i, s o i = 0) : ∃ σ, f_X5_init_0 s = some (σ, 0) ∧ (∀ o, o ≠ 17 → o ≠ 18 → o ≠ 22 → o ≠ 23 → o ≠ 24 → o ≠ 25 → σ o = s o) ∧ σ 17 0 = 5 ∧ σ 17 1 = 2 ∧ σ 18 0 = 82 ∧ σ 18 1 = 78 ∧ (∀ i, i < 8 → σ 22 i = 1000) ∧ σ 23 2 = 2 ∧ ∀ i, i < 15 → σ 24 i = -4 ∧ σ 25 i = -4 := by
  have z : ∀ o, o < 100 → q_clr s o = s := fun o ho => z_clr (hz o ho)
  have p : f_X2_init_1 s = some (s, 0) := by
    unfold f_X2_init_1 f_X3_init_9 f_X3_init_12
    simp only [ls_eq, z 2 (by decide), z 3 (by decide), z 4 (by decide), z 5 (by decide), z 6 (by decide), z 7 (by decide), z 8 (by decide), z 9 (by decide), z 10 (by decide), z 11 (by decide), z 12 (by decide), z 13 (by decide), z 14 (by decide), b_some]
  have r17 : ∀ (τ : Sg) (v : Int32) {k : Nat}, k < 2 → f_X5_set 17 2 τ (nI k) v = some (q_wr τ 17 k v, 0) := fun τ v k hk => r_set (a := 17) (n := 2) τ v hk (by decide)
  have r18 : ∀ (τ : Sg) (v : Int32) {k : Nat}, k < 2 → f_X5_set 18 2 τ (nI k) v = some (q_wr τ 18 k v, 0) := fun τ v k hk => r_set (a := 18) (n := 2) τ v hk (by decide)
  have l : f_X0_init_15 s = some (q_wr (q_wr (q_wr (q_wr s 17 0 5) 18 0 82) 17 1 2) 18 1 78, 0) := by
    unfold f_X0_init_15
    simp only [ls_eq, z 16 (by decide), z 17 (by decide), z 18 (by decide), z 19 (by decide), z 20 (by decide)]
    rw [show f_X5_set 17 2 s 0 5 = _ from r17 s 5 (k := 0) (by decide), b_some, show f_X5_set 18 2 (q_wr s 17 0 5) 0 82 = _ from r18 _ 82 (k := 0) (by decide), b_some, show f_X5_set 17 2 (q_wr (q_wr s 17 0 5) 18 0 82) 1 2 = _ from r17 _ 2 (k := 1) (by decide), b_some, show f_X5_set 18 2 (q_wr (q_wr (q_wr s 17 0 5) 18 0 82) 17 1 2) 1 78 = _ from r18 _ 78 (k := 1) (by decide), b_some]
  have n1 : ∀ o, o ≠ 17 → o ≠ 18 → q_wr (q_wr (q_wr (q_wr s 17 0 5) 18 0 82) 17 1 2) 18 1 78 o = s o := fun o a b => by rw [w_ne _ _ _ b, w_ne _ _ _ a, w_ne _ _ _ b, w_ne _ _ _ a]
  have v1 : q_wr (q_wr (q_wr (q_wr s 17 0 5) 18 0 82) 17 1 2) 18 1 78 17 0 = 5 := by simp [w_at]
  have v2 : q_wr (q_wr (q_wr (q_wr s 17 0 5) 18 0 82) 17 1 2) 18 1 78 17 1 = 2 := by simp [w_at]
  have v3 : q_wr (q_wr (q_wr (q_wr s 17 0 5) 18 0 82) 17 1 2) 18 1 78 18 0 = 82 := by simp [w_at]
  have v4 : q_wr (q_wr (q_wr (q_wr s 17 0 5) 18 0 82) 17 1 2) 18 1 78 18 1 = 78 := by simp [w_at]
  unfold f_X5_init_0
  rw [ls_eq, z 1 (by decide), p, b_some, ls_eq, z 15 (by decide), l, b_some]
  generalize q_wr (q_wr (q_wr (q_wr s 17 0 5) 18 0 82) 17 1 2) 18 1 78 = a at *
  have za : ∀ o, o < 100 → o ≠ 17 → o ≠ 18 → q_clr a o = a := fun o ho h1 h2 => z_clr (fun i => by rw [n1 o h1 h2]; exact hz o ho i)
  obtain ⟨b, b1, b2, b3⟩ := r_fill (a := 22) (n := 8) (by decide) 1000 a
  have ib : f_X4_init_21 a = some (b, 0) := by
    unfold f_X4_init_21
    rw [ls_eq, za 22 (by decide) (by decide) (by decide), b1, b_some]
  rw [ls_eq, za 21 (by decide) (by decide) (by decide), ib, b_some]
  have n2 : ∀ o, o ≠ 17 → o ≠ 18 → o ≠ 22 → b o = s o := fun o x y w => by rw [b2 o w, n1 o x y]
  have zb : ∀ o, o < 100 → o ≠ 17 → o ≠ 18 → o ≠ 22 → q_clr b o = b := fun o ho h1 h2 h3 => z_clr (fun i => by rw [n2 o h1 h2 h3]; exact hz o ho i)
  obtain ⟨c, c1, c2, c3⟩ := r_fill (a := 24) (n := 15) (by decide) (-4) (q_wr b 23 2 2)
  obtain ⟨d, d1, d2, d3⟩ := r_fill (a := 25) (n := 15) (by decide) (-4) c
  have id : f_X1_init_23 b = some (d, 0) := by
    unfold f_X1_init_23
    rw [ls_eq, zb 24 (by decide) (by decide) (by decide) (by decide), ls_eq, zb 25 (by decide) (by decide) (by decide) (by decide), ls_eq, c1, b_some, d1, b_some]
  rw [ls_eq, zb 23 (by decide) (by decide) (by decide) (by decide), id, b_some]
  have n3 : ∀ o, o ≠ 23 → o ≠ 24 → o ≠ 25 → d o = b o := fun o x y w => by rw [d2 o w, c2 o y, w_ne _ _ _ x]
  refine ⟨d, rfl, fun o h1 h2 h3 h4 h5 h6 => by rw [n3 o h4 h5 h6, n2 o h1 h2 h3], ?_, ?_, ?_, ?_, fun i hi => ?_, ?_, fun i hi => ⟨?_, ?_⟩⟩
  · rw [n3 17 (by decide) (by decide) (by decide), b2 17 (by decide)]; exact v1
  · rw [n3 17 (by decide) (by decide) (by decide), b2 17 (by decide)]; exact v2
  · rw [n3 18 (by decide) (by decide) (by decide), b2 18 (by decide)]; exact v3
  · rw [n3 18 (by decide) (by decide) (by decide), b2 18 (by decide)]; exact v4
  · rw [n3 22 (by decide) (by decide) (by decide), b3, if_pos hi]
  · rw [d2 23 (by decide), c2 23 (by decide), w_at, if_pos ⟨rfl, rfl⟩]
  · rw [d2 24 (by decide), c3, if_pos hi]
  · rw [d3, if_pos hi]
theorem i_ref {s : Sg} (hz : ∀ o, 26 ≤ o → o < 100 → ∀ i, s o i = 0) : ∃ σ, f_X6_init_26 s = some (σ, 0) ∧ (∀ o, (o < 26 ∨ 45 < o) → σ o = s o) ∧ (∀ i, i < 8 → σ 27 i = 1000) ∧ (∀ i, i ≠ 31 → σ 26 i = 0) ∧ σ 26 31 = 2 ∧ σ 39 0 = 5 ∧ σ 39 1 = 2 ∧ σ 40 0 = 82 ∧ σ 40 1 = 78 ∧ ∀ i, i < 15 → σ 44 i = -1 ∧ σ 45 i = -1 := by
  have z : ∀ o, 26 ≤ o → o < 100 → q_clr s o = s := fun o h ho => z_clr (hz o h ho)
  have q8 : ∀ k : Nat, k < 8 → ¬ q_oob (nI k) 8 := fun k hk => o_in hk (by decide)
  have o0 : ¬ q_oob (0 : Int32) 8 := q8 0 (by decide)
  have o1 : ¬ q_oob (1 : Int32) 8 := q8 1 (by decide)
  have o2 : ¬ q_oob (2 : Int32) 8 := q8 2 (by decide)
  have o3 : ¬ q_oob (3 : Int32) 8 := q8 3 (by decide)
  have o4 : ¬ q_oob (4 : Int32) 8 := q8 4 (by decide)
  have o5 : ¬ q_oob (5 : Int32) 8 := q8 5 (by decide)
  have o6 : ¬ q_oob (6 : Int32) 8 := q8 6 (by decide)
  have o7 : ¬ q_oob (7 : Int32) 8 := q8 7 (by decide)
  have p0 : ¬ q_oob (0 : Int32) 2 := by decide
  have p1 : ¬ q_oob (1 : Int32) 2 := by decide
  unfold f_X6_init_26
  rw [ls_eq, z 27 (by decide) (by decide), if_neg o0, ls_eq, if_neg o1, ls_eq, if_neg o2, ls_eq, if_neg o3, ls_eq, if_neg o4, ls_eq, if_neg o5, ls_eq, if_neg o6, ls_eq, if_neg o7, ls_eq]
  have t0 : (0 : Int32).toNatClampNeg = 0 := rfl
  have t1 : (1 : Int32).toNatClampNeg = 1 := rfl
  have t2 : (2 : Int32).toNatClampNeg = 2 := rfl
  have t3 : (3 : Int32).toNatClampNeg = 3 := rfl
  have t4 : (4 : Int32).toNatClampNeg = 4 := rfl
  have t5 : (5 : Int32).toNatClampNeg = 5 := rfl
  have t6 : (6 : Int32).toNatClampNeg = 6 := rfl
  have t7 : (7 : Int32).toNatClampNeg = 7 := rfl
  have ea : ∀ i, i < 8 → q_wr (q_wr (q_wr (q_wr (q_wr (q_wr (q_wr (q_wr s 27 (0 : Int32).toNatClampNeg 1000) 27 (1 : Int32).toNatClampNeg 1000) 27 (2 : Int32).toNatClampNeg 1000) 27 (3 : Int32).toNatClampNeg 1000) 27 (4 : Int32).toNatClampNeg 1000) 27 (5 : Int32).toNatClampNeg 1000) 27 (6 : Int32).toNatClampNeg 1000) 27 (7 : Int32).toNatClampNeg 1000 27 i = 1000 := by
    intro i hi
    rw [t0, t1, t2, t3, t4, t5, t6, t7]
    simp only [w_at]
    match i, hi with
    | 0, _ => rfl
    | 1, _ => rfl
    | 2, _ => rfl
    | 3, _ => rfl
    | 4, _ => rfl
    | 5, _ => rfl
    | 6, _ => rfl
    | 7, _ => rfl
    | n + 8, h => exact absurd h (by omega)
  have na : ∀ o, o ≠ 27 → q_wr (q_wr (q_wr (q_wr (q_wr (q_wr (q_wr (q_wr s 27 (0 : Int32).toNatClampNeg 1000) 27 (1 : Int32).toNatClampNeg 1000) 27 (2 : Int32).toNatClampNeg 1000) 27 (3 : Int32).toNatClampNeg 1000) 27 (4 : Int32).toNatClampNeg 1000) 27 (5 : Int32).toNatClampNeg 1000) 27 (6 : Int32).toNatClampNeg 1000) 27 (7 : Int32).toNatClampNeg 1000 o = s o := fun o ho => by
    rw [w_ne _ _ _ ho, w_ne _ _ _ ho, w_ne _ _ _ ho, w_ne _ _ _ ho, w_ne _ _ _ ho, w_ne _ _ _ ho, w_ne _ _ _ ho, w_ne _ _ _ ho]
  generalize q_wr (q_wr (q_wr (q_wr (q_wr (q_wr (q_wr (q_wr s 27 (0 : Int32).toNatClampNeg 1000) 27 (1 : Int32).toNatClampNeg 1000) 27 (2 : Int32).toNatClampNeg 1000) 27 (3 : Int32).toNatClampNeg 1000) 27 (4 : Int32).toNatClampNeg 1000) 27 (5 : Int32).toNatClampNeg 1000) 27 (6 : Int32).toNatClampNeg 1000) 27 (7 : Int32).toNatClampNeg 1000 = a at *
  have za : ∀ o, 28 ≤ o → o < 100 → q_clr a o = a := fun o h ho => z_clr (fun i => by rw [na o (by omega)]; exact hz o (by omega) ho i)
  rw [ls_eq, za 28 (by decide) (by decide), ls_eq, za 29 (by decide) (by decide), ls_eq, za 30 (by decide) (by decide), ls_eq, za 31 (by decide) (by decide), ls_eq, za 32 (by decide) (by decide), ls_eq, za 33 (by decide) (by decide), ls_eq, za 34 (by decide) (by decide), ls_eq, za 35 (by decide) (by decide), ls_eq, za 36 (by decide) (by decide), ls_eq, za 37 (by decide) (by decide), ls_eq, za 38 (by decide) (by decide), ls_eq, za 39 (by decide) (by decide), ls_eq, za 40 (by decide) (by decide), ls_eq, za 41 (by decide) (by decide), ls_eq, za 42 (by decide) (by decide), ls_eq, za 43 (by decide) (by decide), ls_eq, za 44 (by decide) (by decide), ls_eq, za 45 (by decide) (by decide), ls_eq, if_neg p0, ls_eq, if_neg p1, ls_eq, if_neg p0, ls_eq, if_neg p1, ls_eq]
  obtain ⟨σ, g1, g2, g3⟩ := i_44 15 0 1000 (q_wr (q_wr (q_wr (q_wr (q_wr a 26 31 2) 39 (0 : Int32).toNatClampNeg 5) 39 (1 : Int32).toNatClampNeg 2) 40 (0 : Int32).toNatClampNeg 82) 40 (1 : Int32).toNatClampNeg 78) (by omega) (by omega)
  rw [t0, t1] at g2
  refine ⟨σ, g1, fun o ho => ?_, fun i hi => ?_, fun i hi => ?_, ?_, ?_, ?_, ?_, ?_, fun i hi => ?_⟩
  · rw [g2 o (by omega) (by omega) (by omega), w_ne _ _ _ (by omega), w_ne _ _ _ (by omega), w_ne _ _ _ (by omega), w_ne _ _ _ (by omega), w_ne _ _ _ (by omega), na o (by omega)]
  · rw [g2 27 (by decide) (by decide) (by decide), w_ne _ _ _ (by decide), w_ne _ _ _ (by decide), w_ne _ _ _ (by decide), w_ne _ _ _ (by decide), w_ne _ _ _ (by decide)]
    exact ea i hi
  · rw [g2 26 (by decide) (by decide) (by decide), w_ne _ _ _ (by decide), w_ne _ _ _ (by decide), w_ne _ _ _ (by decide), w_ne _ _ _ (by decide), w_at, if_neg (fun z => hi z.2), na 26 (by decide)]
    exact hz 26 (by decide) (by decide) i
  · rw [g2 26 (by decide) (by decide) (by decide), w_ne _ _ _ (by decide), w_ne _ _ _ (by decide), w_ne _ _ _ (by decide), w_ne _ _ _ (by decide), w_at, if_pos ⟨rfl, rfl⟩]
  · rw [g2 39 (by decide) (by decide) (by decide)]; simp [w_at]
  · rw [g2 39 (by decide) (by decide) (by decide)]; simp [w_at]
  · rw [g2 40 (by decide) (by decide) (by decide)]; simp [w_at]
  · rw [g2 40 (by decide) (by decide) (by decide)]; simp [w_at]
  · obtain ⟨x, y⟩ := g3 i hi
    rw [x, y, if_pos (Nat.zero_le _), if_pos (Nat.zero_le _)]
    exact ⟨rfl, rfl⟩
