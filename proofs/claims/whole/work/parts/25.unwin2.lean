theorem m_ge {m x : Nat} (hm : m < 15) (h : x ∈ m_chl m) : x < 15 ∧ m ≤ x := (m_ldt m hm).2.2.2.1 x h
theorem m_out_wk {w : Nat → Option Nat} {m : Nat} (hm : m < 15) : m_wk w (m_chl m) 15 = m_out w (m_chl m) := by
  funext i
  by_cases h : i ∈ m_chl m
  · simp [m_wk, m_out, h, (m_ge hm h).1]
  · simp [m_wk, m_out, h]
theorem m_cl_wk {w : Nat → Option Nat} {m : Nat} (hm : m < 15) : m_cl w m = m_wk w (m_chl m) (m + 1) := by
  funext i
  have hmem : m ∈ m_chl m := by rw [(m_ldt m hm).2.1]; exact List.mem_cons_self
  by_cases hi : i = m
  · subst hi; simp [m_cl, m_wk, hmem]
  · have : ¬ (i ∈ m_chl m ∧ i < m + 1) := fun z => by have := (m_ge hm z.1).2; omega
    simp [m_cl, m_wk, hi, this]
theorem m_ck_m {w : Nat → Option Nat} {m : Nat} (hm : m < 15) (hw : w m ≠ none) : m_ck w (m_chl m) (m + 1) = 1 := by
  have hmem : m ∈ m_chl m := by rw [(m_ldt m hm).2.1]; exact List.mem_cons_self
  rw [m_ck_s, if_pos ⟨hmem, hw⟩]
  have : m_ck w (m_chl m) m = 0 := by
    unfold m_ck
    rw [List.length_eq_zero_iff, List.filter_eq_nil_iff]
    intro i hi
    have h1 := List.mem_range.mp hi
    have : i ∉ m_chl m := fun z => by have := (m_ge hm z).2; omega
    simp [this]
  rw [this]
theorem m_cnt_ck {w : Nat → Option Nat} {m : Nat} (hm : m < 15) : m_cnt w (m_chl m) = m_ck w (m_chl m) 15 := by
  unfold m_cnt m_ck
  rw [(m_ldt m hm).2.2.2.2.2]
  rw [List.filter_filter]
  congr 1
  apply List.filter_congr
  intro i hi
  have h : (i ∈ (List.range 15).filter (fun i => decide (i ∈ m_chl m))) ↔ i ∈ m_chl m := by rw [← (m_ldt m hm).2.2.2.2.2]
  simp only [h]
  exact Bool.and_comm _ _
theorem m_out_c {w : Nat → Option Nat} {m : Nat} (hm : m < 15) (hc : RMc w) : RMc (m_out w (m_chl m)) := by
  intro i hi hq
  have hni : i ∉ m_chl m := fun z => hq (by simp [m_out, z])
  have hwi : w i ≠ none := by simpa [m_out, hni] using hq
  obtain ⟨p0, p1⟩ := hc i hi hwi
  have key : ∀ j s, m_fr j i = some s → s ∉ m_chl m ∧ (i = 14 → 6 ∉ m_chl m ∧ 13 ∉ m_chl m) := by
    intro j s hs
    by_cases hmi : m < i
    · obtain ⟨c1, c2⟩ := m_chf m hm i hi hmi
      cases h0 : m_fr 0 i with
      | none =>
        obtain ⟨-, -, -, -, -, -, t7, -⟩ := m_tabs i hi
        exfalso
        have h1 := t7.mp h0
        by_cases hj : j = 0
        · rw [hj, h0] at hs; cases hs
        · have : m_fr j i = m_fr 1 i := by simp [m_fr, hj]
          rw [this, h1] at hs; cases hs
      | some s0 =>
        obtain ⟨t, ht, hsk, htk, hiff, h14⟩ := c2 s0 h0
        have n0 : s0 ∉ m_chl m := fun z => hni (hiff.mpr (Or.inl z))
        have n1 : t ∉ m_chl m := fun z => hni (hiff.mpr (Or.inr z))
        refine ⟨?_, fun h => ?_⟩
        · by_cases hj : j = 0
          · rw [hj, h0] at hs; cases hs; exact n0
          · have : m_fr j i = m_fr 1 i := by simp [m_fr, hj]
            rw [this, ht] at hs; cases hs; exact n1
        · obtain ⟨e1, e2⟩ := h14 h
          rw [← e1, ← e2]; exact ⟨n0, n1⟩
    · have hsi := m_frlt hi hs
      refine ⟨fun z => by have := (m_ge hm z).2; omega, fun h => ⟨fun z => ?_, fun z => ?_⟩⟩
      · have := (m_ge hm z).2
        have : m = 14 ∨ m ≤ 6 := by omega
        omega
      · have := (m_ge hm z).2
        omega
  have go : ∀ j, m_pl w j i ≠ none → m_pl (m_out w (m_chl m)) j i ≠ none := by
    intro j h
    rw [m_pl_told] at h ⊢
    intro s hs
    obtain ⟨a, b⟩ := h s hs
    obtain ⟨k1, k2⟩ := key j s hs
    refine ⟨by simpa [m_out, k1] using a, fun h14 => ?_⟩
    obtain ⟨z1, z2⟩ := k2 h14
    obtain ⟨q1, q2, q3⟩ := b h14
    simp only [m_out, if_neg z1, if_neg z2]
    exact ⟨q1, q2, q3⟩
  exact ⟨go 0 p0, go 1 p1⟩
theorem RWb_out {w : Nat → Option Nat} (h : RWb w) (l : List Nat) : RWb (m_out w l) := by
  intro i k hk
  by_cases hi : i ∈ l
  · simp [m_out, hi] at hk
  · simp [m_out, hi] at hk; exact h i k hk
theorem p_unwin {σ : Sg} (hT : RT σ) (h : RW σ) (m : Int32) : ∃ σ1 σ2 r, f_X5_unwin σ m = some (σ1, r) ∧ (∀ o, o ≠ 24 → σ1 o = σ o) ∧ f_X6_unwin σ1 m = some (σ2, r) ∧ (∀ o, o ≠ 44 → σ2 o = σ1 o) ∧ RW σ2 := by
  by_cases hm : 0 ≤ m ∧ m ≤ 14
  · obtain ⟨k, hk, rfl⟩ := z_match hm
    obtain ⟨w, a, b, c, d⟩ := id h
    by_cases hw : w k = none
    · refine ⟨σ, σ, -2, ?_, fun _ _ => rfl, ?_, fun _ _ => rfl, h⟩
      · simp only [f_X5_unwin, r_isMatch, b_some, if_pos hm, f_X1_takeBack, r_at (a := 24) (n := 15) σ hk (by decide), a k hk, hw]
        rfl
      · simp only [f_X6_unwin, r_isMatchM, b_some, if_pos hm, if_neg (o_in hk (by decide)), z_cl (show k < 2147483648 by omega), b k hk, hw]
        rfl
    · have hl : (m_chO (some k)).length ≤ 15 := by have := (m_ldt k hk).2.2.2.2.1; show (m_chl k).length ≤ 15; omega
      have htb := m_tb_eq 15 w (some k) 0 (fun y hy => by cases hy; exact hk) hl
      obtain ⟨σ1, g1, g2, g3⟩ := c_tbL 15 0 1000 σ w (some k) 0 (by omega) (by omega) hT a c (fun y hy => by cases hy; exact hk) (by omega)
      rw [htb] at g1 g2
      have b1 : RWm σ1 w := fun x hx => by rw [g3 44 (by decide)]; exact b x hx
      obtain ⟨σ2, f1, f2, f3⟩ := m_swL (14 - k) (k + 1) 1000 (q_wr σ1 44 k (-1)) (m_cl w k) 1 (by omega) (by omega) (RWm_cl b1 k) (RWb_cl c k) (by omega)
      have hsw := m_sw_eq (w := w) hk d (14 - k) (k + 1) (by omega) (by omega)
      rw [← m_cl_wk hk, m_ck_m hk hw] at hsw
      rw [hsw, m_out_wk hk] at f2
      rw [hsw] at f1
      refine ⟨σ1, σ2, nI (m_ck w (m_chl k) 15), ?_, g3, ?_, fun o ho => (f3 o ho).trans (w_ne _ _ _ ho), m_out w (m_chl k), ?_, f2, RWb_out c _, m_out_c hk d⟩
      · simp only [f_X5_unwin, r_isMatch, b_some, if_pos hm, f_X1_takeBack, r_at (a := 24) (n := 15) σ hk (by decide), a k hk, e_c4 (b64 (c k)), if_neg hw]
        have e : f_X1_takeBack_L23 1000 σ 0 (nI k) 0 = some (σ1, nI (m_ck w (m_chl k) 15)) := by
          have e1 : m_ck w (m_chl k) 15 = 0 + m_cnt w (m_chO (some k)) := by rw [Nat.zero_add]; exact (m_cnt_ck hk).symm
          rw [e1]
          exact g1
        rw [e]
        rfl
      · have h0 : 0 ≤ e_m (w k) := by
          cases hz : w k with
          | none => exact absurd hz hw
          | some z => exact z_ge0 (by have := c k z hz; omega)
        simp only [f_X6_unwin, r_isMatchM, b_some, if_pos hm, if_neg (o_in hk (by decide)), z_cl (show k < 2147483648 by omega), b1 k hk, if_pos h0, ls_eq, l_eq, nI_1]
        exact f1
      · intro x hx
        rw [f3 24 (by decide), w_ne _ _ _ (by decide)]
        exact g2 x hx
  · exact ⟨σ, σ, -1, by simp only [f_X5_unwin, r_isMatch, b_some, if_neg hm]; rfl, fun _ _ => rfl, by simp only [f_X6_unwin, r_isMatchM, b_some, if_neg hm]; rfl, fun _ _ => rfl, h⟩
