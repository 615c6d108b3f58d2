/-! the law types laws: two clauses -/
theorem z_s_id {t : Nat → Int32} {len a : Nat} (h : ¬ (a < len ∧ t a = 32)) : z_s t len a = a := by
  show z_sk t len 31 a = a
  simp only [z_sk]
  rw [if_neg h]
theorem z_d10 : ∀ i, i < 10 → 48 ≤ nI (48 + i) ∧ nI (48 + i) ≤ 57 ∧ (nI (48 + i)).toNatClampNeg = 48 + i ∧ ¬ nI (48 + i) = 32 ∧ 32 ≤ nI (48 + i) ∧ nI (48 + i) ≤ 126 := by decide +kernel
theorem z_dg2 {t : Nat → Int32} {len a i j : Nat} (ha : a + 2 < len) (h1 : t a = nI (48 + i)) (h2 : t (a + 1) = nI (48 + j)) (hi : i < 10) (hj : j < 10) (h3 : ¬ (48 ≤ t (a + 2) ∧ t (a + 2) ≤ 57)) : z_dg t len 31 a 0 = (a + 2, i * 10 + j) := by
  obtain ⟨a1, a2, a3, -⟩ := z_d10 i hi
  obtain ⟨b1, b2, b3, -⟩ := z_d10 j hj
  simp only [z_dg]
  rw [if_pos ⟨by omega, by rw [h1]; exact ⟨a1, a2⟩⟩, if_pos ⟨by omega, by rw [h2]; exact ⟨b1, b2⟩⟩, if_neg (fun z => h3 z.2), h1, h2, a3, b3]
  congr 1
  omega
theorem z_cla_ok {t : Nat → Int32} {len a i j : Nat} (ha : a + 4 ≤ len) (hk : t a = 112 ∨ t a = 114) (h1 : t (a + 1) = nI (48 + i)) (h2 : t (a + 2) = nI (48 + j)) (hi : i < 10) (hj : j < 10) (h3 : t (a + 3) = 82 ∨ t (a + 3) = 78) : ∃ c, z_cla t len a = (a + 4, some c) := by
  have s0 : z_s t len a = a := z_s_id (fun z => by
    rcases hk with e | e <;> (rw [e] at z; exact absurd z.2 (by decide)))
  have s1 : z_s t len (a + 1) = a + 1 := z_s_id (fun z => (z_d10 i hi).2.2.2.1 (by rw [← h1]; exact z.2))
  have s3 : z_s t len (a + 3) = a + 3 := z_s_id (fun z => by
    rcases h3 with e | e <;> (rw [e] at z; exact absurd z.2 (by decide)))
  have d : z_dg t len 31 (a + 1) 0 = (a + 3, i * 10 + j) := z_dg2 (by omega) h1 h2 hi hj (fun z => by
    have z2 : 48 ≤ t (a + 3) ∧ t (a + 3) ≤ 57 := z
    rcases h3 with e | e <;> (rw [e] at z2; exact absurd z2 (by decide)))
  unfold z_cla
  simp only [s0, s1, d, s3]
  rw [if_pos ⟨by omega, hk⟩, if_neg (by omega), if_pos ⟨by omega, h3⟩]
  exact ⟨_, rfl⟩
def zT (p r : Nat) (a b : Bool) (i : Nat) : Int32 := match i with
  | 0 => 112
  | 1 => nI (48 + p / 10)
  | 2 => nI (48 + p % 10)
  | 3 => z_let a
  | 4 => 59
  | 5 => 114
  | 6 => nI (48 + r / 10)
  | 7 => nI (48 + r % 10)
  | 8 => z_let b
  | _ => 0
theorem z_letv (a : Bool) : (z_let a = 82 ∨ z_let a = 78) ∧ 32 ≤ z_let a ∧ z_let a ≤ 126 := by
  cases a <;> decide
theorem zT_b {p r : Nat} (hp : p < 20) (hr : r < 20) (a b : Bool) : ∀ i, i < 9 → 32 ≤ zT p r a b i ∧ zT p r a b i ≤ 126 := by
  intro i hi
  match i, hi with
  | 0, _ => exact (show (32 : Int32) ≤ 112 ∧ (112 : Int32) ≤ 126 by decide)
  | 1, _ => exact (z_d10 (p / 10) (by omega)).2.2.2.2
  | 2, _ => exact (z_d10 (p % 10) (by omega)).2.2.2.2
  | 3, _ => exact (z_letv a).2
  | 4, _ => exact (show (32 : Int32) ≤ 59 ∧ (59 : Int32) ≤ 126 by decide)
  | 5, _ => exact (show (32 : Int32) ≤ 114 ∧ (114 : Int32) ≤ 126 by decide)
  | 6, _ => exact (z_d10 (r / 10) (by omega)).2.2.2.2
  | 7, _ => exact (z_d10 (r % 10) (by omega)).2.2.2.2
  | 8, _ => exact (z_letv b).2
  | n + 9, h => exact absurd h (by omega)
theorem zT_rd {p r : Nat} (hp : p < 20) (hr : r < 20) (a b : Bool) : (z_rd (zT p r a b) 9).1 = 2 := by
  obtain ⟨c, hc⟩ := z_cla_ok (t := zT p r a b) (len := 9) (a := 0) (i := p / 10) (j := p % 10) (by decide) (Or.inl rfl) rfl rfl (by omega) (by omega) (z_letv a).1
  obtain ⟨c', hc'⟩ := z_cla_ok (t := zT p r a b) (len := 9) (a := 5) (i := r / 10) (j := r % 10) (by decide) (Or.inr rfl) rfl rfl (by omega) (by omega) (z_letv b).1
  have hc1 : z_cla (zT p r a b) 9 0 = (4, some c) := hc
  have hc2 : z_cla (zT p r a b) 9 (4 + 1) = (9, some c') := hc'
  have s0 : z_s (zT p r a b) 9 0 = 0 := z_s_id (fun z => absurd z.2 (show ¬ (112 : Int32) = 32 by decide))
  have s4 : z_s (zT p r a b) 9 4 = 4 := z_s_id (fun z => absurd z.2 (show ¬ (59 : Int32) = 32 by decide))
  have s9 : z_s (zT p r a b) 9 9 = 9 := z_s_id (fun z => absurd z.1 (by decide))
  have e4 : zT p r a b 4 = 59 := rfl
  unfold z_rd
  simp only [s0, hc1, s4, hc2, s9, e4]
  rfl
def zW (x : Int32) : Int64 := (((((48 : Int64) + ((x / (10 : Int32)).toInt64)) * (256 : Int64)) + (48 : Int64)) + ((x - x / (10 : Int32) * (10 : Int32)).toInt64))
theorem zW_by : ∀ p, p < 20 → z_by (zW (nI p)) 1 = nI (48 + p / 10) ∧ z_by (zW (nI p)) 0 = nI (48 + p % 10) := by decide +kernel
theorem zL_by (a : Bool) : z_by (z_let a).toInt64 0 = z_let a := by
  cases a <;> decide +kernel
theorem l_type {σ : Sg} {t : Nat → Int32} {len : Nat} {lw : Lw} (h : RLc σ t len lw) {k : Nat} (hk : 1 ≤ k ∧ k ≤ 8) (hl : len + k ≤ 30) (w : Int64) (hw : ∀ i, i < k → z_by w (k - 1 - i) = t (len + i)) (ht : ∀ i, i < k → 32 ≤ t (len + i) ∧ t (len + i) ≤ 126) : ∃ σ1, f_X5_type σ w (nI k) = some (σ1, nI (len + k)) ∧ RLc σ1 t (len + k) lw ∧ ∀ o, o ≠ 15 → o ≠ 16 → σ1 o = σ o := by
  obtain ⟨h1, h2, h3⟩ := h
  have hn : (1 : Int32) ≤ nI k ∧ nI k ≤ 8 := ⟨nI_le (a := 1) hk.1 (by omega), nI_le (b := 8) hk.2 (by omega)⟩
  have hC : f_X5_type σ w (nI k) = q_bnd (f_X0_append_L15 1000 σ w (nI k) (nI 0)) fun s1 r2 => some (s1, r2) := by
    simp only [f_X5_type, f_X0_append, r_within, b_some, if_pos hn]
    rfl
  have g : ∀ i, i < k → z_ok w i := fun i hi => by
    have e := hw (k - 1 - i) (by omega)
    have e2 := ht (k - 1 - i) (by omega)
    rw [show k - 1 - (k - 1 - i) = i by omega] at e
    unfold z_ok
    rw [e]
    exact e2
  have c1 := (c_chk w σ hk.2 k 0 1000 (by omega) (by omega)).1 (fun i _ h2 => g i h2)
  have el : nI len + nI k = nI (len + k) := nI_add len k
  have hle : (nI len + nI k) ≤ 30 := by rw [el]; exact nI_le (b := 30) hl (by omega)
  obtain ⟨σ1, g1, g2, g3, g4⟩ := c_w64 w k 1000 σ len t (by omega) hk.2 hl h1 h2
  refine ⟨σ1, ?_, ⟨g2, fun i hi => ?_, fun x hx => ?_⟩, fun o a b => ?_⟩
  · rw [hC, c1, h1, if_pos hle, g1]
    rfl
  · rw [g3 i hi]
    simp only [z_app]
    by_cases q : i < len
    · rw [if_pos q]
    · rw [if_neg q, hw (i - len) (by omega)]
      congr 1
      omega
  · have := h3 x hx
    rw [g4 17 x (by omega) (by omega), g4 18 x (by omega) (by omega)]
    exact this
  · funext k'
    exact g4 o k' b (fun z => a z.1)
theorem l_laws {σ : Sg} {lw : Lw} {p r : Nat} (hp : p < 20) (hr : r < 20) (a b : Bool) (h : RLc σ (zT p r a b) 0 lw) : ∃ σ1, f_L_laws σ (nI p) (z_let a) (nI r) (z_let b) = some (σ1, 1) ∧ ∀ o, ¬ (15 ≤ o ∧ o ≤ 20) → σ1 o = σ o := by
  have hb := zT_b hp hr a b
  have one : ∀ i, i < 1 → i = 0 := fun i hi => by omega
  obtain ⟨σ1, a1, a2, a3⟩ := l_type h (k := 1) (by decide) (by decide) 112 (fun i hi => by rw [one i hi]; exact (by decide +kernel : z_by 112 (1 - 1 - 0) = 112)) (fun i hi => hb _ (by omega))
  obtain ⟨σ2, b1, b2, b3⟩ := l_type a2 (k := 2) (by decide) (by decide) (zW (nI p)) (fun i hi => by
    match i, hi with
    | 0, _ => exact (zW_by p hp).1
    | 1, _ => exact (zW_by p hp).2
    | n + 2, h => exact absurd h (by omega)) (fun i hi => hb _ (by omega))
  obtain ⟨σ3, c1, c2, c3⟩ := l_type b2 (k := 1) (by decide) (by decide) (z_let a).toInt64 (fun i hi => by rw [one i hi]; exact zL_by a) (fun i hi => hb _ (by omega))
  obtain ⟨σ4, d1, d2, d3⟩ := l_type c2 (k := 1) (by decide) (by decide) 59 (fun i hi => by rw [one i hi]; exact (by decide +kernel : z_by 59 (1 - 1 - 0) = 59)) (fun i hi => hb _ (by omega))
  obtain ⟨σ5, e1, e2, e3⟩ := l_type d2 (k := 1) (by decide) (by decide) 114 (fun i hi => by rw [one i hi]; exact (by decide +kernel : z_by 114 (1 - 1 - 0) = 114)) (fun i hi => hb _ (by omega))
  obtain ⟨σ6, f1, f2, f3⟩ := l_type e2 (k := 2) (by decide) (by decide) (zW (nI r)) (fun i hi => by
    match i, hi with
    | 0, _ => exact (zW_by r hr).1
    | 1, _ => exact (zW_by r hr).2
    | n + 2, h => exact absurd h (by omega)) (fun i hi => hb _ (by omega))
  obtain ⟨σ7, g1, g2, g3⟩ := l_type f2 (k := 1) (by decide) (by decide) (z_let b).toInt64 (fun i hi => by rw [one i hi]; exact zL_by b) (fun i hi => hb _ (by omega))
  obtain ⟨σ8, i1, i2, i3⟩ := c_take (len := 9) (by decide) (fun i hi => hb i hi) g2
  rw [zT_rd hp hr a b] at i1
  refine ⟨σ8, ?_, fun o ho => ?_⟩
  · unfold f_L_laws
    rw [show f_X5_type σ 112 1 = some (σ1, 1) from a1, b_some, if_pos rfl]
    rw [show f_X5_type σ1 (((((48 : Int64) + ((nI p / (10 : Int32)).toInt64)) * (256 : Int64)) + (48 : Int64)) + ((nI p - nI p / (10 : Int32) * (10 : Int32)).toInt64)) 2 = some (σ2, 3) from b1, b_some, if_pos rfl]
    rw [show f_X5_type σ2 (z_let a).toInt64 1 = some (σ3, 4) from c1, b_some, if_pos rfl]
    rw [show f_X5_type σ3 59 1 = some (σ4, 5) from d1, b_some, if_pos rfl]
    unfold f_L_laws_J72
    rw [if_neg (by decide), show f_X5_type σ4 114 1 = some (σ5, 6) from e1, b_some, if_pos rfl]
    rw [show f_X5_type σ5 (((((48 : Int64) + ((nI r / (10 : Int32)).toInt64)) * (256 : Int64)) + (48 : Int64)) + ((nI r - nI r / (10 : Int32) * (10 : Int32)).toInt64)) 2 = some (σ6, 8) from f1, b_some, if_pos rfl]
    rw [show f_X5_type σ6 (z_let b).toInt64 1 = some (σ7, 9) from g1, b_some, if_pos rfl, i1, b_some, if_pos rfl]
  · rw [i3 o ho, g3 o (by omega) (by omega), f3 o (by omega) (by omega), e3 o (by omega) (by omega), d3 o (by omega) (by omega), c3 o (by omega) (by omega), b3 o (by omega) (by omega), a3 o (by omega) (by omega)]
