/-! the first state -/
theorem z_clr {σ : Sg} {o : Nat} (h : ∀ i, σ o i = 0) : q_clr σ o = σ := by
  funext o' i
  rw [c_at]
  by_cases e : o' = o
  · rw [if_pos e, e, h i]
  · rw [if_neg e]
theorem i_class {s : Sg} (hz : ∀ o, o < 100 → ∀ i, s o i = 0) : ∃ σ, f_X5_init_0 s = some (σ, 0) ∧ (∀ o, o ≠ 17 → o ≠ 18 → o ≠ 22 → o ≠ 23 → o ≠ 24 → o ≠ 25 → σ o = s o) ∧ σ 17 0 = 5 ∧ σ 17 1 = 2 ∧ σ 18 0 = 82 ∧ σ 18 1 = 78 ∧ (∀ i, i < 8 → σ 22 i = 1000) ∧ σ 23 2 = 2 ∧ ∀ i, i < 15 → σ 24 i = -4 ∧ σ 25 i = -4 := by
  have z : ∀ o, o < 100 → q_clr s o = s := fun o ho => z_clr (hz o ho)
  have p : f_X2_init_1 s = some (s, 0) := by
    unfold f_X2_init_1 f_X3_init_9 f_X3_init_12
    simp only [ls_eq, z 2 (by decide), z 3 (by decide), z 4 (by decide), z 5 (by decide), z 6 (by decide), z 7 (by decide), z 8 (by decide), z 9 (by decide), z 10 (by decide), z 11 (by decide), z 12 (by decide), z 13 (by decide), z 14 (by decide), b_some]
  have r17 : ∀ (τ : Sg) (v : Int32) {k : Nat}, k < 2 → f_X5_set 17 2 τ (nI k) v = some (q_wr τ 17 k v, 0) := fun τ v k hk => r_set (a := 17) (n := 2) τ v hk (by decide)
  have r18 : ∀ (τ : Sg) (v : Int32) {k : Nat}, k < 2 → f_X5_set 18 2 τ (nI k) v = some (q_wr τ 18 k v, 0) := fun τ v k hk => r_set (a := 18) (n := 2) τ v hk (by decide)
  have l : f_X0_init_15 s = some (q_wr (q_wr (q_wr (q_wr s 17 0 5) 18 0 82) 17 1 2) 18 1 78, 0) := by
    unfold f_X0_init_15
    simp only [ls_eq, z 16 (by decide), z 17 (by decide), z 18 (by decide), z 19 (by decide), z 20 (by decide)]
    rw [show f_X5_set 17 2 s 0 5 = _ from r17 s 5 (k := 0) (by decide), b_some, show f_X5_set 18 2 (q_wr s 17 0 5) 0 82 = _ from r18 _ 82 (k := 0) (by decide), b_some, show f_X5_set 17 2 (q_wr (q_wr s 17 0 5) 18 0 82) 1 2 = _ from r17 _ 2 (k := 1) (by decide), b_some, show f_X5_set 18 2 (q_wr (q_wr (q_wr s 17 0 5) 18 0 82) 17 1 2) 1 78 = _ from r18 _ 78 (k := 1) (by decide), b_some]
  have n1 : ∀ o, o ≠ 17 → o ≠ 18 → q_wr (q_wr (q_wr (q_wr s 17 0 5) 18 0 82) 17 1 2) 18 1 78 o = s o := fun o a b => by rw [w_ne _ _ _ b, w_ne _ _ _ a, w_ne _ _ _ b, w_ne _ _ _ a]
  have v1 : q_wr (q_wr (q_wr (q_wr s 17 0 5) 18 0 82) 17 1 2) 18 1 78 17 0 = 5 := by simp [w_at]
  have v2 : q_wr (q_wr (q_wr (q_wr s 17 0 5) 18 0 82) 17 1 2) 18 1 78 17 1 = 2 := by simp [w_at]
  have v3 : q_wr (q_wr (q_wr (q_wr s 17 0 5) 18 0 82) 17 1 2) 18 1 78 18 0 = 82 := by simp [w_at]
  have v4 : q_wr (q_wr (q_wr (q_wr s 17 0 5) 18 0 82) 17 1 2) 18 1 78 18 1 = 78 := by simp [w_at]
  unfold f_X5_init_0
  rw [ls_eq, z 1 (by decide), p, b_some, ls_eq, z 15 (by decide), l, b_some]
  generalize q_wr (q_wr (q_wr (q_wr s 17 0 5) 18 0 82) 17 1 2) 18 1 78 = a at *
  have za : ∀ o, o < 100 → o ≠ 17 → o ≠ 18 → q_clr a o = a := fun o ho h1 h2 => z_clr (fun i => by rw [n1 o h1 h2]; exact hz o ho i)
  obtain ⟨b, b1, b2, b3⟩ := r_fill (a := 22) (n := 8) (by decide) 1000 a
  have ib : f_X4_init_21 a = some (b, 0) := by
    unfold f_X4_init_21
    rw [ls_eq, za 22 (by decide) (by decide) (by decide), b1, b_some]
  rw [ls_eq, za 21 (by decide) (by decide) (by decide), ib, b_some]
  have n2 : ∀ o, o ≠ 17 → o ≠ 18 → o ≠ 22 → b o = s o := fun o x y w => by rw [b2 o w, n1 o x y]
  have zb : ∀ o, o < 100 → o ≠ 17 → o ≠ 18 → o ≠ 22 → q_clr b o = b := fun o ho h1 h2 h3 => z_clr (fun i => by rw [n2 o h1 h2 h3]; exact hz o ho i)
  obtain ⟨c, c1, c2, c3⟩ := r_fill (a := 24) (n := 15) (by decide) (-4) (q_wr b 23 2 2)
  obtain ⟨d, d1, d2, d3⟩ := r_fill (a := 25) (n := 15) (by decide) (-4) c
  have id : f_X1_init_23 b = some (d, 0) := by
    unfold f_X1_init_23
    rw [ls_eq, zb 24 (by decide) (by decide) (by decide) (by decide), ls_eq, zb 25 (by decide) (by decide) (by decide) (by decide), ls_eq, c1, b_some, d1, b_some]
  rw [ls_eq, zb 23 (by decide) (by decide) (by decide) (by decide), id, b_some]
  have n3 : ∀ o, o ≠ 23 → o ≠ 24 → o ≠ 25 → d o = b o := fun o x y w => by rw [d2 o w, c2 o y, w_ne _ _ _ x]
  refine ⟨d, rfl, fun o h1 h2 h3 h4 h5 h6 => by rw [n3 o h4 h5 h6, n2 o h1 h2 h3], ?_, ?_, ?_, ?_, fun i hi => ?_, ?_, fun i hi => ⟨?_, ?_⟩⟩
  · rw [n3 17 (by decide) (by decide) (by decide), b2 17 (by decide)]; exact v1
  · rw [n3 17 (by decide) (by decide) (by decide), b2 17 (by decide)]; exact v2
  · rw [n3 18 (by decide) (by decide) (by decide), b2 18 (by decide)]; exact v3
  · rw [n3 18 (by decide) (by decide) (by decide), b2 18 (by decide)]; exact v4
  · rw [n3 22 (by decide) (by decide) (by decide), b3, if_pos hi]
  · rw [d2 23 (by decide), c2 23 (by decide), w_at, if_pos ⟨rfl, rfl⟩]
  · rw [d2 24 (by decide), c3, if_pos hi]
  · rw [d3, if_pos hi]
