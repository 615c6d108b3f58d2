/-! the law's loop -/
theorem law_step {xs : Nat → Int32} {N : Nat} (hN : N ≤ 2048) {σ : Sg} (H : Rel xs σ) {m : Nat} (hm : m + 4 ≤ N) (rec : Sg → Int32 → Rs) : ∃ σ2, s_L_law_L18 N rec σ (nI m) = rec σ2 (nI (m + 4)) ∧ Rel xs σ2 := by
  have e1 : nI m + 1 = nI (m + 1) := nI_add m 1
  have e2 : nI m + 2 = nI (m + 2) := nI_add m 2
  have e3 : nI m + 3 = nI (m + 3) := nI_add m 3
  have e4 : nI m + 4 = nI (m + 4) := nI_add m 4
  have o0 : ¬ q_oob (nI m) N := o_in (k := m) (n := N) (by omega) (by omega)
  have o1 : ¬ q_oob (nI (m + 1)) N := o_in (k := m + 1) (n := N) (by omega) (by omega)
  have o2 : ¬ q_oob (nI (m + 2)) N := o_in (k := m + 2) (n := N) (by omega) (by omega)
  have o3 : ¬ q_oob (nI (m + 3)) N := o_in (k := m + 3) (n := N) (by omega) (by omega)
  have f4 : (4 : Int32).toInt = 4 := by decide
  have go : ¬ Int32.ofNat N - 4 < nI m := by
    show ¬ nI N - 4 < nI m
    rw [z_lt, z_sub (by rw [z_nI (by omega), f4]; omega), z_nI (by omega), z_nI (by omega), f4]
    omega
  have hx := H.1
  unfold s_L_law_L18
  rw [if_neg go, if_neg o0, l_eq, e1, e2, e3, e4, hx]
  generalize (xs (nI m).toNatClampNeg &&& 31) = v
  by_cases n0 : v < 0
  · rw [if_pos n0, l_eq]
    exact ⟨σ, rfl, H⟩
  rw [if_neg n0]
  by_cases n1 : 19 < v
  · rw [if_pos n1, l_eq]
    exact ⟨σ, rfl, H⟩
  rw [if_neg n1]
  obtain ⟨j, hj, rfl⟩ := nI_of2 (x := v) (M := 19) (n := 19) (by decide) n0 (by rw [z_le]; rw [z_lt] at n1; omega)
  have fin : ∀ {f1 : Rs} {f2 : Sg → Rs}, PQ xs f1 f2 → ∃ σ1 σ2 r, f1 = some (σ1, r) ∧ σ1 105 = xs ∧ f2 σ1 = some (σ2, r) ∧ Rel xs σ2 := fun h => h
  match j, hj with
  | 0, _ =>
    obtain ⟨σ1, σ2, r, a1, a2, a3, a4⟩ := fin (PQ_game H (xs (nI (m + 1)).toNatClampNeg) (xs (nI (m + 2)).toNatClampNeg))
    refine ⟨σ2, ?_, a4⟩
    rw [if_pos (by decide), if_neg o1, if_neg o2, a1, b_some, if_neg o1, if_neg o2, a2]
    rw [show f_X6_game σ1 (xs (nI (m + 1)).toNatClampNeg) (xs (nI (m + 2)).toNatClampNeg) = some (σ2, r) from a3, b_some, if_pos rfl, l_eq]
  | 1, _ =>
    obtain ⟨σ1, σ2, r, a1, a2, a3, a4⟩ := fin (PQ_stroke H (xs (nI (m + 1)).toNatClampNeg) (xs (nI (m + 2)).toNatClampNeg))
    refine ⟨σ2, ?_, a4⟩
    rw [if_neg (by decide), if_pos (by decide), if_neg o1, if_neg o2, a1, b_some, if_neg o1, if_neg o2, a2]
    rw [show f_X6_stroke σ1 (xs (nI (m + 1)).toNatClampNeg) (xs (nI (m + 2)).toNatClampNeg) = some (σ2, r) from a3, b_some, if_pos rfl, l_eq]
  | 2, _ =>
    obtain ⟨σ1, σ2, r, a1, a2, a3, a4⟩ := fin (PQ_same H (B := fun s => f_X6_told s (xs (nI (m + 1)).toNatClampNeg) (xs (nI (m + 2)).toNatClampNeg)) (p_told H.2.2.2.2.2.2 (xs (nI (m + 1)).toNatClampNeg) (xs (nI (m + 2)).toNatClampNeg)))
    refine ⟨σ2, ?_, a4⟩
    rw [if_neg (by decide), if_neg (by decide), if_pos (by decide), if_neg o1, if_neg o2, a1, b_some, if_neg o1, if_neg o2, a2]
    rw [show f_X6_told σ1 (xs (nI (m + 1)).toNatClampNeg) (xs (nI (m + 2)).toNatClampNeg) = some (σ2, r) from a3, b_some, if_pos rfl, l_eq]
  | 3, _ =>
    obtain ⟨σ1, σ2, r, a1, a2, a3, a4⟩ := fin (PQ_same H (B := fun s => f_X6_hit s (xs (nI (m + 1)).toNatClampNeg)) (p_hit H.2.2.2.2.2.2 (xs (nI (m + 1)).toNatClampNeg)))
    refine ⟨σ2, ?_, a4⟩
    rw [if_neg (by decide), if_neg (by decide), if_neg (by decide), if_pos (by decide), if_neg o1, a1, b_some, if_neg o1, a2]
    rw [show f_X6_hit σ1 (xs (nI (m + 1)).toNatClampNeg) = some (σ2, r) from a3, b_some, if_pos rfl, l_eq]
  | 4, _ =>
    obtain ⟨σ1, σ2, r, a1, a2, a3, a4⟩ := fin (PQ_state H (xs (nI (m + 1)).toNatClampNeg) (xs (nI (m + 2)).toNatClampNeg))
    refine ⟨σ2, ?_, a4⟩
    rw [if_neg (by decide), if_neg (by decide), if_neg (by decide), if_neg (by decide), if_pos (by decide), if_neg o1, if_neg o2, a1, b_some, if_neg o1, if_neg o2, a2]
    rw [show f_X6_state σ1 (xs (nI (m + 1)).toNatClampNeg) (xs (nI (m + 2)).toNatClampNeg) = some (σ2, r) from a3, b_some, if_pos rfl, l_eq]
  | 5, _ =>
    obtain ⟨σ1, σ2, r, a1, a2, a3, a4⟩ := fin (PQ_found H (xs (nI (m + 1)).toNatClampNeg))
    refine ⟨σ2, ?_, a4⟩
    rw [if_neg (by decide), if_neg (by decide), if_neg (by decide), if_neg (by decide), if_neg (by decide), if_pos (by decide), if_neg o1, a1, b_some, if_neg o1, a2]
    rw [show f_X6_found σ1 (xs (nI (m + 1)).toNatClampNeg) = some (σ2, r) from a3, b_some, if_pos rfl, l_eq]
  | 6, _ =>
    obtain ⟨σ1, σ2, r, a1, a2, a3, a4⟩ := fin (PQ_type H (((xs (nI (m + 1)).toNatClampNeg).toInt64 <<< ((32 : Int32).toInt64 &&& 63)) ||| ((xs (nI (m + 2)).toNatClampNeg).toInt64 &&& (4294967295 : Int64))) (xs (nI (m + 3)).toNatClampNeg))
    refine ⟨σ2, ?_, a4⟩
    rw [if_neg (by decide), if_neg (by decide), if_neg (by decide), if_neg (by decide), if_neg (by decide), if_neg (by decide), if_pos (by decide), if_neg o1, if_neg o2, if_neg o3, a1, b_some, if_neg o1, if_neg o2, if_neg o3, a2]
    rw [show f_X6_type σ1 (((xs (nI (m + 1)).toNatClampNeg).toInt64 <<< ((32 : Int32).toInt64 &&& 63)) ||| ((xs (nI (m + 2)).toNatClampNeg).toInt64 &&& (4294967295 : Int64))) (xs (nI (m + 3)).toNatClampNeg) = some (σ2, r) from a3, b_some, if_pos rfl, l_eq]
  | 7, _ =>
    obtain ⟨σ1, σ2, r, a1, a2, a3, a4⟩ := fin (PQ_laws H)
    refine ⟨σ2, ?_, a4⟩
    rw [if_neg (by decide), if_neg (by decide), if_neg (by decide), if_neg (by decide), if_neg (by decide), if_neg (by decide), if_neg (by decide), if_pos (by decide), a1, b_some]
    rw [show f_X6_laws σ1 = some (σ2, r) from a3, b_some, if_pos rfl, l_eq]
  | 8, _ =>
    obtain ⟨σ1, σ2, r, a1, a2, a3, a4⟩ := fin (PQ_same H (B := fun s => f_X6_count s (xs (nI (m + 1)).toNatClampNeg)) (p_count H.2.2.2.2.2.2 (xs (nI (m + 1)).toNatClampNeg)))
    refine ⟨σ2, ?_, a4⟩
    rw [if_neg (by decide), if_neg (by decide), if_neg (by decide), if_neg (by decide), if_neg (by decide), if_neg (by decide), if_neg (by decide), if_neg (by decide), if_pos (by decide), if_neg o1, a1, b_some, if_neg o1, a2]
    rw [show f_X6_count σ1 (xs (nI (m + 1)).toNatClampNeg) = some (σ2, r) from a3, b_some, if_pos rfl, l_eq]
  | 9, _ =>
    obtain ⟨σ1, σ2, r, a1, a2, a3, a4⟩ := fin (PQ_index H (xs (nI (m + 1)).toNatClampNeg) (xs (nI (m + 2)).toNatClampNeg))
    refine ⟨σ2, ?_, a4⟩
    rw [if_neg (by decide), if_neg (by decide), if_neg (by decide), if_neg (by decide), if_neg (by decide), if_neg (by decide), if_neg (by decide), if_neg (by decide), if_neg (by decide), if_pos (by decide), if_neg o1, if_neg o2, a1, b_some, if_neg o1, if_neg o2, a2]
    rw [show f_X6_index σ1 (xs (nI (m + 1)).toNatClampNeg) (xs (nI (m + 2)).toNatClampNeg) = some (σ2, r) from a3, b_some, if_pos rfl, l_eq]
  | 10, _ =>
    obtain ⟨σ1, σ2, r, a1, a2, a3, a4⟩ := fin (PQ_same H (B := fun s => f_X6_handicap s (xs (nI (m + 1)).toNatClampNeg)) (p_handicap σ (xs (nI (m + 1)).toNatClampNeg) H.2.2.1))
    refine ⟨σ2, ?_, a4⟩
    rw [if_neg (by decide), if_neg (by decide), if_neg (by decide), if_neg (by decide), if_neg (by decide), if_neg (by decide), if_neg (by decide), if_neg (by decide), if_neg (by decide), if_neg (by decide), if_pos (by decide), if_neg o1, a1, b_some, if_neg o1, a2]
    rw [show f_X6_handicap σ1 (xs (nI (m + 1)).toNatClampNeg) = some (σ2, r) from a3, b_some, if_pos rfl, l_eq]
  | 11, _ =>
    obtain ⟨σ1, σ2, r, a1, a2, a3, a4⟩ := fin (PQ_settle H)
    refine ⟨σ2, ?_, a4⟩
    rw [if_neg (by decide), if_neg (by decide), if_neg (by decide), if_neg (by decide), if_neg (by decide), if_neg (by decide), if_neg (by decide), if_neg (by decide), if_neg (by decide), if_neg (by decide), if_neg (by decide), if_pos (by decide), a1, b_some]
    rw [show f_X6_settle σ1 = some (σ2, r) from a3, b_some, if_pos rfl, l_eq]
  | 12, _ =>
    obtain ⟨σ1, σ2, r, a1, a2, a3, a4⟩ := fin (PQ_same H (B := fun s => f_X6_match s (xs (nI (m + 1)).toNatClampNeg) (xs (nI (m + 2)).toNatClampNeg)) (p_match H.2.1 H.2.2.2.1 (xs (nI (m + 1)).toNatClampNeg) (xs (nI (m + 2)).toNatClampNeg)))
    refine ⟨σ2, ?_, a4⟩
    rw [if_neg (by decide), if_neg (by decide), if_neg (by decide), if_neg (by decide), if_neg (by decide), if_neg (by decide), if_neg (by decide), if_neg (by decide), if_neg (by decide), if_neg (by decide), if_neg (by decide), if_neg (by decide), if_pos (by decide), if_neg o1, if_neg o2, a1, b_some, if_neg o1, if_neg o2, a2]
    rw [show f_X6_match σ1 (xs (nI (m + 1)).toNatClampNeg) (xs (nI (m + 2)).toNatClampNeg) = some (σ2, r) from a3, b_some, if_pos rfl, l_eq]
  | 13, _ =>
    obtain ⟨σ1, σ2, r, a1, a2, a3, a4⟩ := fin (PQ_win H (xs (nI (m + 1)).toNatClampNeg) (xs (nI (m + 2)).toNatClampNeg))
    refine ⟨σ2, ?_, a4⟩
    rw [if_neg (by decide), if_neg (by decide), if_neg (by decide), if_neg (by decide), if_neg (by decide), if_neg (by decide), if_neg (by decide), if_neg (by decide), if_neg (by decide), if_neg (by decide), if_neg (by decide), if_neg (by decide), if_neg (by decide), if_pos (by decide), if_neg o1, if_neg o2, a1, b_some, if_neg o1, if_neg o2, a2]
    rw [show f_X6_win σ1 (xs (nI (m + 1)).toNatClampNeg) (xs (nI (m + 2)).toNatClampNeg) = some (σ2, r) from a3, b_some, if_pos rfl, l_eq]
  | 14, _ =>
    obtain ⟨σ1, σ2, r, a1, a2, a3, a4⟩ := fin (PQ_unwin H (xs (nI (m + 1)).toNatClampNeg))
    refine ⟨σ2, ?_, a4⟩
    rw [if_neg (by decide), if_neg (by decide), if_neg (by decide), if_neg (by decide), if_neg (by decide), if_neg (by decide), if_neg (by decide), if_neg (by decide), if_neg (by decide), if_neg (by decide), if_neg (by decide), if_neg (by decide), if_neg (by decide), if_neg (by decide), if_pos (by decide), if_neg o1, a1, b_some, if_neg o1, a2]
    rw [show f_X6_unwin σ1 (xs (nI (m + 1)).toNatClampNeg) = some (σ2, r) from a3, b_some, if_pos rfl, l_eq]
  | 15, _ =>
    obtain ⟨σ1, σ2, r, a1, a2, a3, a4⟩ := fin (PQ_same H (B := fun s => f_X6_champion s) (p_champion H.2.2.2.1))
    refine ⟨σ2, ?_, a4⟩
    rw [if_neg (by decide), if_neg (by decide), if_neg (by decide), if_neg (by decide), if_neg (by decide), if_neg (by decide), if_neg (by decide), if_neg (by decide), if_neg (by decide), if_neg (by decide), if_neg (by decide), if_neg (by decide), if_neg (by decide), if_neg (by decide), if_neg (by decide), if_pos (by decide), a1, b_some]
    rw [show f_X6_champion σ1 = some (σ2, r) from a3, b_some, if_pos rfl, l_eq]
  | 16, _ =>
    obtain ⟨σ1, σ2, r, a1, a2, a3, a4⟩ := fin (PQ_lawns H (xs (nI (m + 1)).toNatClampNeg))
    refine ⟨σ2, ?_, a4⟩
    rw [if_neg (by decide), if_neg (by decide), if_neg (by decide), if_neg (by decide), if_neg (by decide), if_neg (by decide), if_neg (by decide), if_neg (by decide), if_neg (by decide), if_neg (by decide), if_neg (by decide), if_neg (by decide), if_neg (by decide), if_neg (by decide), if_neg (by decide), if_neg (by decide), if_pos (by decide), if_neg o1, a1, b_some, if_neg o1, a2]
    rw [show f_X6_lawns σ1 (xs (nI (m + 1)).toNatClampNeg) = some (σ2, r) from a3, b_some, if_pos rfl, l_eq]
  | 17, _ =>
    obtain ⟨σ1, σ2, r, a1, a2, a3, a4⟩ := fin (PQ_lay H (xs (nI (m + 1)).toNatClampNeg))
    refine ⟨σ2, ?_, a4⟩
    rw [if_neg (by decide), if_neg (by decide), if_neg (by decide), if_neg (by decide), if_neg (by decide), if_neg (by decide), if_neg (by decide), if_neg (by decide), if_neg (by decide), if_neg (by decide), if_neg (by decide), if_neg (by decide), if_neg (by decide), if_neg (by decide), if_neg (by decide), if_neg (by decide), if_neg (by decide), if_pos (by decide), if_neg o1, a1, b_some, if_neg o1, a2]
    rw [show f_X6_lay σ1 (xs (nI (m + 1)).toNatClampNeg) = some (σ2, r) from a3, b_some, if_pos rfl, l_eq]
  | 18, _ =>
    obtain ⟨σ1, σ2, r, a1, a2, a3, a4⟩ := fin (PQ_same H (B := fun s => f_X6_hour s (xs (nI (m + 1)).toNatClampNeg)) (p_hour H.2.2.2.2.1 (xs (nI (m + 1)).toNatClampNeg)))
    refine ⟨σ2, ?_, a4⟩
    rw [if_neg (by decide), if_neg (by decide), if_neg (by decide), if_neg (by decide), if_neg (by decide), if_neg (by decide), if_neg (by decide), if_neg (by decide), if_neg (by decide), if_neg (by decide), if_neg (by decide), if_neg (by decide), if_neg (by decide), if_neg (by decide), if_neg (by decide), if_neg (by decide), if_neg (by decide), if_neg (by decide), if_pos (by decide), if_neg o1, a1, b_some, if_neg o1, a2]
    rw [show f_X6_hour σ1 (xs (nI (m + 1)).toNatClampNeg) = some (σ2, r) from a3, b_some, if_pos rfl, l_eq]
  | 19, _ =>
    obtain ⟨σ1, σ2, r, a1, a2, a3, a4⟩ := fin (PQ_clear H)
    refine ⟨σ2, ?_, a4⟩
    rw [if_neg (by decide), if_neg (by decide), if_neg (by decide), if_neg (by decide), if_neg (by decide), if_neg (by decide), if_neg (by decide), if_neg (by decide), if_neg (by decide), if_neg (by decide), if_neg (by decide), if_neg (by decide), if_neg (by decide), if_neg (by decide), if_neg (by decide), if_neg (by decide), if_neg (by decide), if_neg (by decide), if_neg (by decide), if_pos (by decide), a1, b_some]
    rw [show f_X6_clear σ1 = some (σ2, r) from a3, b_some, if_pos rfl, l_eq]
  | n + 20, h => exact absurd h (by omega)
theorem law_loop {xs : Nat → Int32} {N : Nat} (hN : N ≤ 2048) : ∀ (d m q : Nat) (σ : Sg), N < m + 4 * d + 4 → d < q → m ≤ 4096 → Rel xs σ → ∃ σ', f_L_law_L18 N q σ (nI m) = some (σ', 1) := by
  have f4 : (4 : Int32).toInt = 4 := by decide
  have stop : ∀ (m q : Nat) (σ : Sg), N < m + 4 → m ≤ 4096 → ∃ σ', f_L_law_L18 N (q + 1) σ (nI m) = some (σ', 1) := by
    intro m q σ h hm
    refine ⟨σ, ?_⟩
    show s_L_law_L18 N (f_L_law_L18 N q) σ (nI m) = _
    unfold s_L_law_L18
    have go : Int32.ofNat N - 4 < nI m := by
      show nI N - 4 < nI m
      rw [z_lt, z_sub (by rw [z_nI (by omega), f4]; omega), z_nI (by omega), z_nI (by omega), f4]
      omega
    rw [if_pos go]
  intro d
  induction d with
  | zero =>
    intro m q σ h hq hm H
    obtain ⟨q, rfl⟩ : ∃ p, q = p + 1 := ⟨q - 1, by omega⟩
    exact stop m q σ (by omega) hm
  | succ d ih =>
    intro m q σ h hq hm H
    obtain ⟨q, rfl⟩ : ∃ p, q = p + 1 := ⟨q - 1, by omega⟩
    by_cases c : N < m + 4
    · exact stop m q σ c hm
    · obtain ⟨σ2, a, b⟩ := law_step hN H (m := m) (by omega) (f_L_law_L18 N q)
      obtain ⟨σ', g⟩ := ih (m + 4) q σ2 (by omega) (by omega) (by omega) b
      exact ⟨σ', a.trans g⟩
