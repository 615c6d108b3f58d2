/-! laws: the reference's reading -/
def TM (σ : Sg) (t : Nat → Int32) (len a : Nat) : Prop := σ 26 27 = nI len ∧ σ 26 28 = nI a ∧ ∀ i, i < len → σ 43 i = t i
theorem TM_pl {σ : Sg} {t : Nat → Int32} {len a a' : Nat} (h : TM σ t len a) : TM (q_wr σ 26 28 (nI a')) t len a' := by
  obtain ⟨h1, h2, h3⟩ := h
  refine ⟨by rw [w_at, if_neg (by decide)]; exact h1, by rw [w_at, if_pos ⟨rfl, rfl⟩], fun i hi => by rw [w_at, if_neg (by omega)]; exact h3 i hi⟩
abbrev F26 (σ σ' : Sg) : Prop := ∀ o k, ¬ (o = 26 ∧ k = 28) → σ' o k = σ o k
theorem m_J38 {σ : Sg} {t : Nat → Int32} {len a : Nat} (hl : len ≤ 30) (ha : a ≤ 40) (h : TM σ t len a) : f_X6_next_J38 σ = some (σ, if a < len then t a else -1) := by
  unfold f_X6_next_J38
  rw [h.1, h.2.1]
  by_cases q : a < len
  · rw [if_neg (nI_ge q (by omega)), if_neg (o_in (show a < 30 by omega) (by decide)), z_cl (show a < 2147483648 by omega), if_pos q, h.2.2 a q]
  · rw [if_pos (nI_le (by omega) (by omega)), if_neg q]
theorem m_nextL {t : Nat → Int32} {len : Nat} (hl : len ≤ 30) : ∀ (d a q : Nat) (σ : Sg), len ≤ a + d → d < q → a ≤ 40 → TM σ t len a → ∃ σ', f_X6_next_L0 q σ = some (σ', if z_sk t len d a < len then t (z_sk t len d a) else -1) ∧ TM σ' t len (z_sk t len d a) ∧ F26 σ σ' := by
  intro d
  induction d with
  | zero =>
    intro a q σ h1 h2 h3 h
    obtain ⟨q, rfl⟩ : ∃ p, q = p + 1 := ⟨q - 1, by omega⟩
    refine ⟨σ, ?_, h, fun _ _ _ => rfl⟩
    show s_X6_next_L0 (f_X6_next_L0 q) σ = _
    unfold s_X6_next_L0
    rw [h.1, h.2.1, if_pos (nI_le (by omega) (by omega)), m_J38 hl h3 h]
    rfl
  | succ d ih =>
    intro a q σ h1 h2 h3 h
    obtain ⟨q, rfl⟩ : ∃ p, q = p + 1 := ⟨q - 1, by omega⟩
    show ∃ σ', s_X6_next_L0 (f_X6_next_L0 q) σ = _ ∧ _
    unfold s_X6_next_L0
    have stay : ¬ (a < len ∧ t a = 32) → z_sk t len (d + 1) a = a := fun z => by simp only [z_sk, if_neg z]
    by_cases q1 : a < len
    · rw [h.1, h.2.1, if_neg (nI_ge q1 (by omega)), if_neg (o_in (show a < 30 by omega) (by decide)), z_cl (show a < 2147483648 by omega), h.2.2 a q1]
      by_cases q2 : t a = 32
      · rw [if_pos q2, ls_eq, nI_1]
        obtain ⟨σ', g1, g2, g3⟩ := ih (a + 1) q (q_wr σ 26 28 (nI (a + 1))) (by omega) (by omega) (by omega) (TM_pl h)
        have e : z_sk t len (d + 1) a = z_sk t len d (a + 1) := by simp only [z_sk, if_pos (show a < len ∧ t a = 32 from ⟨q1, q2⟩)]
        rw [e]
        exact ⟨σ', g1, g2, fun o k ho => by rw [g3 o k ho, w_at, if_neg ho]⟩
      · rw [if_neg q2, stay (fun z => q2 z.2), m_J38 hl h3 h]
        exact ⟨σ, rfl, h, fun _ _ _ => rfl⟩
    · rw [h.1, h.2.1, if_pos (nI_le (by omega) (by omega)), stay (fun z => q1 z.1), m_J38 hl h3 h]
      exact ⟨σ, rfl, h, fun _ _ _ => rfl⟩
theorem m_next {σ : Sg} {t : Nat → Int32} {len a : Nat} (hl : len ≤ 30) (ha : a ≤ 40) (h : TM σ t len a) : ∃ σ', f_X6_next σ = some (σ', if z_s t len a < len then t (z_s t len a) else -1) ∧ TM σ' t len (z_s t len a) ∧ F26 σ σ' := m_nextL hl 31 a 1000 σ (by omega) (by omega) ha h
/-- the two ways to hold a number that grows too great -/
def z_nr (v m : Nat) : Prop := (v = m ∧ v ≤ 99) ∨ (v = 100 ∧ 100 ≤ m ∧ m ≤ 999)
theorem m_numL {t : Nat → Int32} {len : Nat} (hl : len ≤ 30) (ht : ∀ i, i < len → 32 ≤ t i ∧ t i ≤ 126) {y : Int32} {s0 : Nat} : ∀ (d a v m q : Nat) (σ : Sg), len ≤ a + d → d < q → a ≤ 40 → z_nr v m → TM σ t len a →
    ∃ σ' m', f_X6_readClause_L54 q σ y (nI s0) (nI m) = f_X6_readClause_J129 σ' y (nI s0) (nI m') ∧ z_nr (z_dg t len d a v).2 m' ∧ TM σ' t len (z_dg t len d a v).1 ∧ F26 σ σ' := by
  intro d
  induction d with
  | zero =>
    intro a v m q σ h1 h2 h3 h4 h
    obtain ⟨q, rfl⟩ : ∃ p, q = p + 1 := ⟨q - 1, by omega⟩
    refine ⟨σ, m, ?_, h4, h, fun _ _ _ => rfl⟩
    show s_X6_readClause_L54 (f_X6_readClause_L54 q) σ y (nI s0) (nI m) = _
    unfold s_X6_readClause_L54
    rw [h.1, h.2.1, if_pos (nI_le (by omega) (by omega))]
  | succ d ih =>
    intro a v m q σ h1 h2 h3 h4 h
    obtain ⟨q, rfl⟩ : ∃ p, q = p + 1 := ⟨q - 1, by omega⟩
    show ∃ σ' m', s_X6_readClause_L54 (f_X6_readClause_L54 q) σ y (nI s0) (nI m) = _ ∧ _
    unfold s_X6_readClause_L54
    have stay : ¬ (a < len ∧ 48 ≤ t a ∧ t a ≤ 57) → z_dg t len (d + 1) a v = (a, v) := fun z => by simp only [z_dg, if_neg z]
    by_cases q1 : a < len
    · rw [h.1, h.2.1, if_neg (nI_ge q1 (by omega)), if_neg (o_in (show a < 30 by omega) (by decide)), z_cl (show a < 2147483648 by omega), h.2.2 a q1, r_in, b_some]
      by_cases q2 : 48 ≤ t a ∧ t a ≤ 57
      · rw [if_pos q2, if_neg (by decide)]
        obtain ⟨c, hc1, hc2, hc⟩ := z_tape ht q1
        have hc3 : 48 ≤ c ∧ c ≤ 57 := by
          rw [hc] at q2
          have := (nI_leI (a := 48) (b := c) (by omega) (by omega)).mp q2.1
          have := (nI_leI (a := c) (b := 57) (by omega) (by omega)).mp q2.2
          omega
        have e3 : z_dg t len (d + 1) a v = z_dg t len d (a + 1) (min 100 (v * 10 + c - 48)) := by
          show (if a < len ∧ 48 ≤ t a ∧ t a ≤ 57 then z_dg t len d (a + 1) (min 100 (v * 10 + (t a).toNatClampNeg - 48)) else (a, v)) = _
          rw [if_pos ⟨q1, q2⟩, hc, z_cl (show c < 2147483648 by omega)]
        have go : ∀ m2, z_nr (min 100 (v * 10 + c - 48)) m2 → ∃ σ' m', f_X6_readClause_J114 (f_X6_readClause_L54 q) σ y (nI s0) (nI m2) = f_X6_readClause_J129 σ' y (nI s0) (nI m') ∧ z_nr (z_dg t len (d + 1) a v).2 m' ∧ TM σ' t len (z_dg t len (d + 1) a v).1 ∧ F26 σ σ' := by
          intro m2 hm2
          unfold f_X6_readClause_J114
          rw [ls_eq, h.2.1, nI_1, e3]
          obtain ⟨σ', m', g1, g2, g3, g4⟩ := ih (a + 1) (min 100 (v * 10 + c - 48)) m2 q (q_wr σ 26 28 (nI (a + 1))) (by omega) (by omega) (by omega) hm2 (TM_pl h)
          exact ⟨σ', m', g1, g2, g3, fun o k ho => by rw [g4 o k ho, w_at, if_neg ho]⟩
        by_cases q3 : m ≤ 99
        · have hv : v = m := by rcases h4 with z | z <;> omega
          have e1 : (((10 : Int32) * nI m) + t a) - (48 : Int32) = nI (m * 10 + c - 48) := by
            rw [hc, show (10 : Int32) * nI m = nI (10 * m) from (Int32.ofNat_mul 10 m).symm, nI_add]
            apply Int32.toInt_inj.mp
            have e48 : (48 : Int32).toInt = 48 := rfl
            rw [z_sub (by rw [z_nI (by omega), e48]; omega), z_nI (by omega), z_nI (by omega), e48]
            omega
          rw [if_pos (show nI m ≤ 99 from nI_le (b := 99) q3 (by omega)), h.2.1, if_neg (o_in (show a < 30 by omega) (by decide)), z_cl (show a < 2147483648 by omega), h.2.2 a q1, e1]
          refine go _ ?_
          subst hv
          by_cases z : v * 10 + c - 48 ≤ 99
          · exact Or.inl ⟨by omega, by omega⟩
          · exact Or.inr ⟨by omega, by omega, by omega⟩
        · have hv : v = 100 := by rcases h4 with z | z <;> omega
          rw [if_neg (show ¬ nI m ≤ 99 from nI_ge (a := 99) (by omega) (by rcases h4 with z | z <;> omega))]
          refine go _ ?_
          subst hv
          rcases h4 with z | z
          · omega
          · exact Or.inr ⟨by omega, z.2.1, z.2.2⟩
      · rw [if_neg q2, if_pos rfl, stay (fun z => q2 z.2)]
        exact ⟨σ, m, rfl, h4, h, fun _ _ _ => rfl⟩
    · rw [h.1, h.2.1, if_pos (nI_le (by omega) (by omega)), stay (fun z => q1 z.1)]
      exact ⟨σ, m, rfl, h4, h, fun _ _ _ => rfl⟩
/-- the reference's draft -/
def DM (σ : Sg) (dl : Lw) : Prop := ∀ k, k < 2 → match dl k with
  | none => σ 42 k = 0
  | some (v, b) => σ 41 k = nI v ∧ σ 42 k = z_let b
theorem DM_f {σ σ' : Sg} {dl : Lw} (h1 : ∀ k, σ' 41 k = σ 41 k) (h2 : ∀ k, σ' 42 k = σ 42 k) (h : DM σ dl) : DM σ' dl := by
  intro k hk
  have := h k hk
  rw [h1, h2]
  exact this
theorem DM_ap {σ : Sg} {dl : Lw} (h : DM σ dl) {k : Nat} (hk : k < 2) (v : Nat) (b : Bool) : DM (q_wr (q_wr σ 41 k (nI v)) 42 k (z_let b)) (z_ap dl (some (k, v, b))) := by
  intro i hi
  have := h i hi
  by_cases hik : i = k
  · subst hik
    simp only [z_ap, if_true]
    refine ⟨by rw [w_at, if_neg (by omega), w_at, if_pos ⟨rfl, rfl⟩], by rw [w_at, if_pos ⟨rfl, rfl⟩]⟩
  · simp only [z_ap, if_neg hik]
    rw [w_at, if_neg (by omega), w_at, if_neg (by omega), w_at, if_neg (by omega), w_at, if_neg (by omega)]
    exact this
abbrev F26d (σ σ' : Sg) : Prop := ∀ o k, ¬ (o = 26 ∧ k = 28) → o ≠ 41 → o ≠ 42 → σ' o k = σ o k
theorem TM_d {σ : Sg} {t : Nat → Int32} {len a : Nat} (h : TM σ t len a) (k v k' v' : _) : TM (q_wr (q_wr σ 41 k v) 42 k' v') t len a := by
  obtain ⟨h1, h2, h3⟩ := h
  refine ⟨by rw [w_at, if_neg (by omega), w_at, if_neg (by omega)]; exact h1, by rw [w_at, if_neg (by omega), w_at, if_neg (by omega)]; exact h2, fun i hi => by rw [w_at, if_neg (by omega), w_at, if_neg (by omega)]; exact h3 i hi⟩
theorem m_clause {σ : Sg} {t : Nat → Int32} {len a : Nat} {dl : Lw} (hl : len ≤ 30) (ht : ∀ i, i < len → 32 ≤ t i ∧ t i ≤ 126) (ha : a ≤ 31) (h : TM σ t len a) (hd : DM σ dl) :
    ∃ σ', f_X6_readClause σ = some (σ', if (z_cla t len a).2 = none then 0 else 1) ∧ TM σ' t len (z_cla t len a).1 ∧ DM σ' (z_ap dl (z_cla t len a).2) ∧ F26d σ σ' := by
  obtain ⟨σ1, g1, g2, g3⟩ := m_next hl (by omega) h
  have d1 : DM σ1 dl := DM_f (fun k => g3 41 k (by omega)) (fun k => g3 42 k (by omega)) hd
  have ba := z_sb t len a
  have bb := z_sb t len (z_s t len a + 1)
  have bc := z_dg_ge t len 31 (z_s t len (z_s t len a + 1)) 0
  have bd := z_sb t len (z_dg t len 31 (z_s t len (z_s t len a + 1)) 0).1
  unfold f_X6_readClause
  rw [g1, b_some]
  by_cases q1 : z_s t len a < len ∧ (t (z_s t len a) = 112 ∨ t (z_s t len a) = 114)
  · rw [if_pos q1.1]
    have J : ∃ σ', f_X6_readClause_J30 σ1 (nI (if t (z_s t len a) = 112 then 0 else 1)) = some (σ', if (z_cla t len a).2 = none then 0 else 1) ∧ TM σ' t len (z_cla t len a).1 ∧ DM σ' (z_ap dl (z_cla t len a).2) ∧ F26d σ σ' := by
      unfold f_X6_readClause_J30
      rw [ls_eq, g2.2.1, nI_1]
      obtain ⟨σ2, e1, e2, e3⟩ := m_next hl (a := z_s t len a + 1) (by omega) (TM_pl (a' := z_s t len a + 1) g2)
      rw [e1, b_some, l_eq, e2.2.1]
      obtain ⟨σ3, m', n1, n2, n3, n4⟩ := m_numL hl ht (y := nI (if t (z_s t len a) = 112 then 0 else 1)) (s0 := z_s t len (z_s t len a + 1)) 31 (z_s t len (z_s t len a + 1)) 0 0 1000 σ2 (by omega) (by omega) (by omega) (Or.inl ⟨rfl, by omega⟩) e2
      have f3 : F26 σ σ3 := fun o k ho => by rw [n4 o k ho, e3 o k ho, w_at, if_neg ho, g3 o k ho]
      have d3 : DM σ3 dl := DM_f (fun k => f3 41 k (by omega)) (fun k => f3 42 k (by omega)) hd
      have n1' : f_X6_readClause_L54 1000 σ2 (nI (if t (z_s t len a) = 112 then 0 else 1)) (nI (z_s t len (z_s t len a + 1))) 0 = _ := n1
      rw [n1']
      unfold f_X6_readClause_J129
      rw [n3.2.1]
      by_cases q2 : (z_dg t len 31 (z_s t len (z_s t len a + 1)) 0).1 = z_s t len (z_s t len a + 1)
      · have e : z_cla t len a = (z_s t len (z_s t len a + 1), none) := by unfold z_cla; rw [if_pos q1, if_pos (Or.inl q2)]
        rw [if_pos (by rw [q2]), ls_eq, e]
        exact ⟨_, rfl, TM_pl n3, DM_f (fun k => by rw [w_at, if_neg (by omega)]) (fun k => by rw [w_at, if_neg (by omega)]) d3, fun o k h1 _ _ => by rw [w_at, if_neg h1]; exact f3 o k h1⟩
      · rw [if_neg (by rw [nI_eq (by omega) (by omega)]; exact q2)]
        by_cases q3 : 99 < (z_dg t len 31 (z_s t len (z_s t len a + 1)) 0).2
        · have hm : ¬ nI m' ≤ 99 := nI_ge (a := 99) (by rcases n2 with z | z <;> omega) (by rcases n2 with z | z <;> omega)
          have e : z_cla t len a = (z_s t len (z_s t len a + 1), none) := by unfold z_cla; rw [if_pos q1, if_pos (Or.inr q3)]
          rw [if_neg hm, ls_eq, e]
          exact ⟨_, rfl, TM_pl n3, DM_f (fun k => by rw [w_at, if_neg (by omega)]) (fun k => by rw [w_at, if_neg (by omega)]) d3, fun o k h1 _ _ => by rw [w_at, if_neg h1]; exact f3 o k h1⟩
        · have hmv : m' = (z_dg t len 31 (z_s t len (z_s t len a + 1)) 0).2 := by rcases n2 with z | z <;> omega
          subst hmv
          rw [if_pos (show nI (z_dg t len 31 (z_s t len (z_s t len a + 1)) 0).2 ≤ 99 from nI_le (b := 99) (by omega) (by omega))]
          obtain ⟨σ4, s1, s2, s3⟩ := m_next hl (a := (z_dg t len 31 (z_s t len (z_s t len a + 1)) 0).1) (by omega) n3
          have f4 : F26 σ σ4 := fun o k ho => by rw [s3 o k ho, f3 o k ho]
          have d4 : DM σ4 dl := DM_f (fun k => f4 41 k (by omega)) (fun k => f4 42 k (by omega)) hd
          have nq2 : ¬ ((z_dg t len 31 (z_s t len (z_s t len a + 1)) 0).1 = z_s t len (z_s t len a + 1) ∨ 99 < (z_dg t len 31 (z_s t len (z_s t len a + 1)) 0).2) := fun z => z.elim q2 q3
          rw [s1, b_some]
          by_cases q4 : z_s t len (z_dg t len 31 (z_s t len (z_s t len a + 1)) 0).1 < len ∧ (t (z_s t len (z_dg t len 31 (z_s t len (z_s t len a + 1)) 0).1) = 82 ∨ t (z_s t len (z_dg t len 31 (z_s t len (z_s t len a + 1)) 0).1) = 78)
          · rw [if_pos q4.1]
            have hk2 : (if t (z_s t len a) = 112 then 0 else 1) < 2 := by split <;> omega
            have e : z_cla t len a = (z_s t len (z_dg t len 31 (z_s t len (z_s t len a + 1)) 0).1 + 1, some (if t (z_s t len a) = 112 then 0 else 1, (z_dg t len 31 (z_s t len (z_s t len a + 1)) 0).2, decide (t (z_s t len (z_dg t len 31 (z_s t len (z_s t len a + 1)) 0).1) = 82))) := by unfold z_cla; rw [if_pos q1, if_neg nq2, if_pos q4]
            have hlet : t (z_s t len (z_dg t len 31 (z_s t len (z_s t len a + 1)) 0).1) = z_let (decide (t (z_s t len (z_dg t len 31 (z_s t len (z_s t len a + 1)) 0).1) = 82)) := by
              by_cases q5 : t (z_s t len (z_dg t len 31 (z_s t len (z_s t len a + 1)) 0).1) = 82
              · rw [q5]; rfl
              · rcases q4.2 with z | z
                · exact absurd z q5
                · rw [z]; rfl
            generalize (if t (z_s t len a) = 112 then 0 else 1) = K at hk2 e ⊢
            have go : ∃ σ', f_X6_readClause_J170 σ4 (t (z_s t len (z_dg t len 31 (z_s t len (z_s t len a + 1)) 0).1)) (nI K) (nI (z_dg t len 31 (z_s t len (z_s t len a + 1)) 0).2) = some (σ', if (z_cla t len a).2 = none then 0 else 1) ∧ TM σ' t len (z_cla t len a).1 ∧ DM σ' (z_ap dl (z_cla t len a).2) ∧ F26d σ σ' := by
              unfold f_X6_readClause_J170
              rw [ls_eq, s2.2.1, nI_1, if_neg (o_in hk2 (by decide)), ls_eq, if_neg (o_in hk2 (by decide)), ls_eq, z_cl (show K < 2147483648 by omega), e]
              refine ⟨_, rfl, TM_d (TM_pl s2) _ _ _ _, ?_, fun o k h1 h2 h3 => ?_⟩
              · have dd : DM (q_wr σ4 26 28 (nI (z_s t len (z_dg t len 31 (z_s t len (z_s t len a + 1)) 0).1 + 1))) dl := DM_f (fun k => by rw [w_at, if_neg (by omega)]) (fun k => by rw [w_at, if_neg (by omega)]) d4
                have := DM_ap dd hk2 (z_dg t len 31 (z_s t len (z_s t len a + 1)) 0).2 (decide (t (z_s t len (z_dg t len 31 (z_s t len (z_s t len a + 1)) 0).1) = 82))
                rw [← hlet] at this
                exact this
              · rw [w_at, if_neg (fun z => h3 z.1), w_at, if_neg (fun z => h2 z.1), w_at, if_neg h1]
                exact f4 o k h1
            by_cases q5 : t (z_s t len (z_dg t len 31 (z_s t len (z_s t len a + 1)) 0).1) = 82
            · rw [if_pos q5]; exact go
            · rcases q4.2 with z | z
              · exact absurd z q5
              · rw [if_neg q5, if_pos z]; exact go
          · have e : z_cla t len a = (z_s t len (z_dg t len 31 (z_s t len (z_s t len a + 1)) 0).1, none) := by unfold z_cla; rw [if_pos q1, if_neg nq2, if_neg q4]
            have n82 : ¬ (if z_s t len (z_dg t len 31 (z_s t len (z_s t len a + 1)) 0).1 < len then t (z_s t len (z_dg t len 31 (z_s t len (z_s t len a + 1)) 0).1) else -1) = 82 := by
              intro z
              by_cases y : z_s t len (z_dg t len 31 (z_s t len (z_s t len a + 1)) 0).1 < len
              · rw [if_pos y] at z; exact q4 ⟨y, Or.inl z⟩
              · rw [if_neg y] at z; revert z; decide
            have n78 : ¬ (if z_s t len (z_dg t len 31 (z_s t len (z_s t len a + 1)) 0).1 < len then t (z_s t len (z_dg t len 31 (z_s t len (z_s t len a + 1)) 0).1) else -1) = 78 := by
              intro z
              by_cases y : z_s t len (z_dg t len 31 (z_s t len (z_s t len a + 1)) 0).1 < len
              · rw [if_pos y] at z; exact q4 ⟨y, Or.inr z⟩
              · rw [if_neg y] at z; revert z; decide
            rw [if_neg n82, if_neg n78, e]
            exact ⟨σ4, rfl, s2, d4, fun o k h1 _ _ => f4 o k h1⟩
    have J19 : f_X6_readClause_J19 σ1 (t (z_s t len a)) = f_X6_readClause_J30 σ1 (nI (if t (z_s t len a) = 112 then 0 else 1)) := by
      unfold f_X6_readClause_J19
      by_cases q5 : t (z_s t len a) = 112
      · rw [if_pos q5, if_pos q5]; rfl
      · rw [if_neg q5, if_neg q5]; rfl
    rw [J19]
    by_cases q5 : t (z_s t len a) = 112
    · rw [if_pos q5]; exact J
    · rcases q1.2 with z | z
      · exact absurd z q5
      · rw [if_neg q5, if_pos z]; exact J
  · have e : z_cla t len a = (z_s t len a, none) := by unfold z_cla; rw [if_neg q1]
    have n1 : ¬ (if z_s t len a < len then t (z_s t len a) else -1) = 112 := by
      intro z
      by_cases y : z_s t len a < len
      · rw [if_pos y] at z; exact q1 ⟨y, Or.inl z⟩
      · rw [if_neg y] at z; revert z; decide
    have n2 : ¬ (if z_s t len a < len then t (z_s t len a) else -1) = 114 := by
      intro z
      by_cases y : z_s t len a < len
      · rw [if_pos y] at z; exact q1 ⟨y, Or.inr z⟩
      · rw [if_neg y] at z; revert z; decide
    rw [if_neg n1, if_neg n2, e]
    exact ⟨σ1, rfl, g2, d1, fun o k h1 _ _ => g3 o k h1⟩
