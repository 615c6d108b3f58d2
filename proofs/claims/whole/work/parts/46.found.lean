/-! a wrong stroke is found -/
theorem m_isStroke {τ : Sg} {S k : Nat} (h1 : τ 26 1 = 1) (h4 : τ 26 4 = nI S) (hS : S ≤ 150) (hk : k < S) : f_X6_isStroke τ (nI k) = some (τ, 1) := by
  unfold f_X6_isStroke
  have l1 := z_01.2
  have eS : (nI S - 1).toInt = (S : Int) - 1 := by rw [z_sub (by rw [z_nI (by omega), l1]; omega), z_nI (by omega), l1]
  have n : 0 ≤ nI k ∧ nI k ≤ nI S - 1 := by rw [z_le, z_le, eS, z_nI (by omega), z_01.1]; omega
  rw [if_neg (show ¬ τ 26 1 = 0 by rw [h1]; decide), r_in, b_some, h4, if_pos n, if_neg (show ¬ (1 : Int32) = 0 by decide)]
theorem z_behind {S k : Nat} (hS : S ≤ 150) (hk : k < S) : nI S - 1 - nI k = nI (S - 1 - k) := by
  have l1 := z_01.2
  have eS : (nI S - 1).toInt = (S : Int) - 1 := by rw [z_sub (by rw [z_nI (by omega), l1]; omega), z_nI (by omega), l1]
  rw [z_eq, z_sub (by rw [eS, z_nI (by omega)]; omega), eS, z_nI (by omega), z_nI (by omega)]
  omega
theorem m_foundE {τ : Sg} {S k d : Nat} (h1 : τ 26 1 = 1) (h4 : τ 26 4 = nI S) (hS : S ≤ 150) (hk : k < S) (h30 : τ 30 k = nI d) : f_X6_found τ (nI k) = f_X6_found_J24 τ (nI k) (nI (if nI d = 0 then 0 else 1)) := by
  unfold f_X6_found
  have ck : (nI k).toNatClampNeg = k := z_cl (n := k) (by omega)
  rw [m_isStroke h1 h4 hS hk, b_some, if_neg (show ¬ (1 : Int32) = 0 by decide), if_neg (o_in (k := k) (n := 150) (by omega) (by decide))]
  by_cases e : nI d = 0
  · rw [if_pos (show τ 30 (nI k).toNatClampNeg = 0 by rw [ck, h30]; exact e), if_pos e]
    rfl
  · rw [if_neg (show ¬ τ 30 (nI k).toNatClampNeg = 0 by rw [ck, h30]; exact e), if_neg e]
    rfl
theorem pEnd_7 (p : Ps) : pEnd p 7 = -4 := by
  unfold pEnd
  by_cases a : p 7 = -4
  · rw [if_pos a]; exact a
  · rw [if_neg a]; rfl
theorem k_away {σ : Sg} {S k c : Nat} (G : GO σ S) (hk : k < S) (hc : c < 2) (hw : σ 34 k = 1) {v : Nat} (h39 : σ 39 c = nI v) (h40 : σ 40 c = 82) (hm : S - 1 - k ≤ v) (hv : v ≤ 99) : ∃ σ1 σ2, f_X2_takeAway σ (nI k) = some (σ1, 1) ∧ Fc σ σ1 ∧ f_X6_found_J24 σ1 (nI k) (nI c) = some (σ2, 1) ∧ Fr σ1 σ2 ∧ RG σ2 := by
  have hS := G.1
  have h9 := G.2.1
  have g1 := G.2.2.1
  have h10 := G.2.2.2.1
  have h4 := G.2.2.2.2.1
  have hP := GO_P G
  obtain ⟨d, b, a1, a2, a3, a4, a5, a6, a7, a8, a9, a10, a11, a12⟩ := G.2.2.2.2.2.1 k hk
  obtain ⟨s, s2, es, e3, e1⟩ : ∃ s, s < 2 ∧ σ 5 k = nI s ∧ 3 - σ 5 k = nI (3 - s) ∧ 1 - σ 5 k = nI (1 - s) := by
    rcases a10 with e | e
    · exact ⟨0, by decide, e, by rw [e]; decide, by rw [e]; decide⟩
    · exact ⟨1, by decide, e, by rw [e]; decide, by rw [e]; decide⟩
  have m1 : ∀ o, o ≠ 7 → o ≠ 1 → q_wr (q_wr σ 7 k (nI (3 - s))) 1 10 (nI k) o = σ o := fun o x y => by rw [w_ne _ _ _ y, w_ne _ _ _ x]
  have m2 : ∀ i, q_wr (q_wr σ 7 k (nI (3 - s))) 1 10 (nI k) 7 i = if i = k then nI (3 - s) else σ 7 i := fun i => by simp [w_at]
  have m3 : ∀ i, q_wr (q_wr σ 7 k (nI (3 - s))) 1 10 (nI k) 1 i = if i = 10 then nI k else σ 1 i := fun i => by simp [w_at]
  have start : f_X2_takeAway σ (nI k) = q_bnd (f_X2_leadTo 9 (q_wr (q_wr σ 7 k (nI (3 - s))) 1 10 (nI k)) (nI k)) fun s6 _ => some (s6, 1) := by
    unfold f_X2_takeAway
    rw [r_at (a := 5) (n := 150) σ (show k < 150 by omega) (by decide), b_some, e3, r_set (a := 7) (n := 151) σ _ (show k < 151 by omega) (by decide), b_some, ls_eq, m3, if_pos rfl]
  rw [start]
  generalize q_wr (q_wr σ 7 k (nI (3 - s))) 1 10 (nI k) = ρ at *
  have RP : ∀ n, n < k → rp ρ n = rp σ n := fun n hn => rp_c (by rw [m3]; rfl) (by rw [m3]; rfl) n (fun i _ => by rw [m1 2 (by decide) (by decide)]) (fun i _ => by rw [m1 3 (by decide) (by decide)]) (fun i hi => by rw [m2, if_neg (by omega)])
  have P1 : GP ρ k := by
    refine ⟨fun j hj => ?_, fun j hj => ?_⟩
    · obtain ⟨x1, x2, x3, x4, x5, x6, x7⟩ := hP.1 j (by omega)
      exact ⟨x1, x2, x3, x4, by rw [m1 2 (by decide) (by decide)]; exact x5, by rw [m1 3 (by decide) (by decide)]; exact x6, by rw [RP j hj]; exact x7⟩
    · by_cases e : j = k
      · exact ⟨3 - s, by omega, by rw [m2, if_pos e]⟩
      · obtain ⟨x1, x2, x3⟩ := hP.2 j (by omega)
        exact ⟨x1, x2, by rw [m2, if_neg e]; exact x3⟩
  obtain ⟨σ1, l1, l2, l3⟩ := c_leadTo (o := 9) (Or.inl rfl) (Nat.le_refl k) (by omega) (by rw [m3, if_pos rfl]) P1
  have L : ∀ o, o ≠ 9 → o ≠ 10 → o ≠ 11 → σ1 o = ρ o := l3
  have F : Fc σ σ1 := fun o ho => by rw [L o (by omega) (by omega) (by omega), m1 o (by omega) (by omega)]
  have e26 : σ1 26 = σ 26 := F 26 (by decide)
  have ck : (nI k).toNatClampNeg = k := z_cl (n := k) (by omega)
  have cc : (nI c).toNatClampNeg = c := z_cl (n := c) (by omega)
  have ok : ¬ q_oob (nI k) 150 := o_in (k := k) (n := 150) (by omega) (by decide)
  have ok' : ¬ q_oob (nI k) 151 := o_in (k := k) (n := 151) (by omega) (by decide)
  have oc : ¬ q_oob (nI c) 2 := o_in (k := c) (n := 2) hc (by decide)
  obtain ⟨τ, f1, f2, f3⟩ := m_forget (q_wr (q_wr σ1 34 k 0) 26 4 (nI k)) (k := k + 1) (by omega)
  have T : ∀ o, o ≠ 26 → o ≠ 34 → o ≠ 35 → o ≠ 36 → τ o = σ1 o := fun o x1 x2 x3 x4 => by rw [f2 o x3 x4, w_ne _ _ _ x1, w_ne _ _ _ x2]
  have U : ∀ o, o ≠ 26 → o ≠ 34 → o ≠ 35 → o ≠ 36 → q_wr τ 35 k (nI (1 - s)) o = σ1 o := fun o x1 x2 x3 x4 => by rw [w_ne _ _ _ x3, T o x1 x2 x3 x4]
  have u26 : ∀ i, q_wr τ 35 k (nI (1 - s)) 26 i = if i = 4 then nI k else σ 26 i := fun i => by
    rw [w_ne _ _ _ (by decide), f2 26 (by decide) (by decide), w_at, w_ne _ _ _ (by decide), e26]
    simp
  have u34 : ∀ i, i ≠ k → q_wr τ 35 k (nI (1 - s)) 34 i = σ 34 i := fun i hi => by
    rw [w_ne _ _ _ (by decide), f2 34 (by decide) (by decide), w_ne _ _ _ (by decide), w_at, if_neg (fun z => hi z.2), F 34 (by decide)]
  have u35 : ∀ i, i < 151 → q_wr τ 35 k (nI (1 - s)) 35 i = if i = k then nI (1 - s) else if k + 1 ≤ i then -1 else σ 35 i := fun i hi => by
    rw [w_at, (f3 i hi).1, w_ne _ _ _ (by decide), w_ne _ _ _ (by decide), F 35 (by decide)]
    simp
  have u36 : ∀ i, i < 151 → q_wr τ 35 k (nI (1 - s)) 36 i = if k + 1 ≤ i then 0 else σ 36 i := fun i hi => by
    rw [w_ne _ _ _ (by decide), (f3 i hi).2, w_ne _ _ _ (by decide), w_ne _ _ _ (by decide), F 36 (by decide)]
  have e33 : τ 33 k = nI s := by rw [T 33 (by decide) (by decide) (by decide) (by decide), F 33 (by decide), a9]; exact es
  refine ⟨σ1, q_wr τ 35 k (nI (1 - s)), ?_, F, ?_, ⟨fun o x1 x2 => U o x1 (by omega) (by omega) (by omega), fun i hi => by rw [u26, if_neg (by omega), e26]⟩, Or.inr ⟨k, by omega, ?_, ?_, ?_, ?_, fun i hi => ?_, fun i hi => ?_, fun i hi hi' => ?_, ?_, ?_, ?_, ?_⟩⟩
  · rw [l1, b_some]
  · unfold f_X6_found_J24
    rw [if_neg ok, if_neg (show ¬ σ1 34 (nI k).toNatClampNeg = 0 by rw [ck, F 34 (by decide), hw]; decide), if_neg oc, if_neg (show ¬ σ1 40 (nI c).toNatClampNeg = 0 by rw [cc, F 40 (by decide), h40]; decide), if_neg oc, if_pos (show σ1 26 4 - 1 - nI k ≤ σ1 39 (nI c).toNatClampNeg by rw [cc, e26, h4, F 39 (by decide), h39, z_behind hS hk]; exact nI_le hm (by omega)), if_neg ok, ls_eq, if_neg oc]
    rw [if_pos (show q_wr σ1 34 (nI k).toNatClampNeg 0 40 (nI c).toNatClampNeg = 82 by rw [w_ne _ _ _ (by decide), cc, F 40 (by decide)]; exact h40), ls_eq, nI_1, show f_X6_forget (q_wr (q_wr σ1 34 (nI k).toNatClampNeg 0) 26 4 (nI k)) (nI (k + 1)) = some (τ, 0) by rw [ck]; exact f1, b_some, if_neg ok, if_neg ok', ls_eq, ck, e33]
    rw [show (1 : Int32) - nI s = nI (1 - s) from one_v s2]
  · rw [U 1 (by decide) (by decide) (by decide) (by decide), L 1 (by decide) (by decide) (by decide), m3, if_neg (by decide)]; exact h9
  · rw [u26, if_neg (by decide)]; exact g1
  · rw [U 1 (by decide) (by decide) (by decide) (by decide), L 1 (by decide) (by decide) (by decide), m3, if_pos rfl]
  · rw [u26, if_pos rfl]
  · have g := G.2.2.2.2.2.1 i (by omega)
    have RP2 : rp (q_wr τ 35 k (nI (1 - s))) i = rp σ i := by
      rw [← RP i hi]
      exact rp_c (by rw [U 1 (by decide) (by decide) (by decide) (by decide), L 1 (by decide) (by decide) (by decide)]) (by rw [U 1 (by decide) (by decide) (by decide) (by decide), L 1 (by decide) (by decide) (by decide)]) i (fun j _ => by rw [U 2 (by decide) (by decide) (by decide) (by decide), L 2 (by decide) (by decide) (by decide)]) (fun j _ => by rw [U 3 (by decide) (by decide) (by decide) (by decide), L 3 (by decide) (by decide) (by decide)]) (fun j _ => by rw [U 7 (by decide) (by decide) (by decide) (by decide), L 7 (by decide) (by decide) (by decide)])
    have B : ∀ o, o ≠ 26 → o ≠ 34 → o ≠ 35 → o ≠ 36 → o ≠ 9 → o ≠ 10 → o ≠ 11 → o ≠ 7 → o ≠ 1 → q_wr τ 35 k (nI (1 - s)) o = σ o := fun o x1 x2 x3 x4 x5 x6 x7 x8 x9 => by rw [U o x1 x2 x3 x4, L o x5 x6 x7, m1 o x8 x9]
    unfold GS at g ⊢
    rw [RP2, u34 i (by omega), B 2 (by decide) (by decide) (by decide) (by decide) (by decide) (by decide) (by decide) (by decide) (by decide), B 3 (by decide) (by decide) (by decide) (by decide) (by decide) (by decide) (by decide) (by decide) (by decide), B 4 (by decide) (by decide) (by decide) (by decide) (by decide) (by decide) (by decide) (by decide) (by decide), B 5 (by decide) (by decide) (by decide) (by decide) (by decide) (by decide) (by decide) (by decide) (by decide), B 6 (by decide) (by decide) (by decide) (by decide) (by decide) (by decide) (by decide) (by decide) (by decide), B 30 (by decide) (by decide) (by decide) (by decide) (by decide) (by decide) (by decide) (by decide) (by decide), B 31 (by decide) (by decide) (by decide) (by decide) (by decide) (by decide) (by decide) (by decide) (by decide), B 32 (by decide) (by decide) (by decide) (by decide) (by decide) (by decide) (by decide) (by decide) (by decide), B 33 (by decide) (by decide) (by decide) (by decide) (by decide) (by decide) (by decide) (by decide) (by decide)]
    exact g
  · have g := G.2.2.2.2.2.2.1 i (by omega)
    have x7 : q_wr τ 35 k (nI (1 - s)) 7 i = if i = k then nI (3 - s) else σ 7 i := by rw [U 7 (by decide) (by decide) (by decide) (by decide), L 7 (by decide) (by decide) (by decide), m2]
    unfold GR at g ⊢
    rw [x7, u35 i (by omega), u36 i (by omega), if_neg (show ¬ k + 1 ≤ i by omega), if_neg (show ¬ k + 1 ≤ i by omega)]
    by_cases e : i = k
    · rw [if_pos e, if_pos e]
      have h36 : σ 36 i = 0 ∨ σ 36 i = 1 := by
        obtain ⟨r, -, -, h | h | ⟨_, -, -, -, h⟩⟩ := g
        · exact Or.inl h.2.1
        · exact Or.inr h.2.1
        · exact h
      exact ⟨3 - s, by omega, rfl, Or.inr (Or.inr ⟨1 - s, by omega, by omega, rfl, h36⟩)⟩
    · rw [if_neg e, if_neg e]
      exact g
  · unfold GN
    rw [u35 i (by omega), u36 i (by omega), if_neg (show ¬ i = k by omega), if_pos (show k + 1 ≤ i by omega), if_pos (show k + 1 ≤ i by omega)]
    exact ⟨rfl, rfl⟩
  · rw [U 29 (by decide) (by decide) (by decide) (by decide), F 29 (by decide), U 1 (by decide) (by decide) (by decide) (by decide), L 1 (by decide) (by decide) (by decide), m3, if_neg (by decide)]
    exact G.2.2.2.2.2.2.2.2.1
  · rw [U 29 (by decide) (by decide) (by decide) (by decide), F 29 (by decide), U 1 (by decide) (by decide) (by decide) (by decide), L 1 (by decide) (by decide) (by decide), m3, if_neg (by decide)]
    exact G.2.2.2.2.2.2.2.2.2.1
  · rw [U 8 (by decide) (by decide) (by decide) (by decide), L 8 (by decide) (by decide) (by decide), m1 8 (by decide) (by decide), U 28 (by decide) (by decide) (by decide) (by decide), F 28 (by decide)]
    exact G.2.2.2.2.2.2.2.2.2.2.1
  · rw [vC_c (o := 9) (U 9 (by decide) (by decide) (by decide) (by decide)) (U 10 (by decide) (by decide) (by decide) (by decide)) (U 11 (by decide) (by decide) (by decide) (by decide)), l2]
    exact (rp_c (by rw [U 1 (by decide) (by decide) (by decide) (by decide), L 1 (by decide) (by decide) (by decide)]) (by rw [U 1 (by decide) (by decide) (by decide) (by decide), L 1 (by decide) (by decide) (by decide)]) k (fun j _ => by rw [U 2 (by decide) (by decide) (by decide) (by decide), L 2 (by decide) (by decide) (by decide)]) (fun j _ => by rw [U 3 (by decide) (by decide) (by decide) (by decide), L 3 (by decide) (by decide) (by decide)]) (fun j _ => by rw [U 7 (by decide) (by decide) (by decide) (by decide), L 7 (by decide) (by decide) (by decide)])).symm
