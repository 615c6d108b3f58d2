/-! laws: reading the tape -/
def z_sk (t : Nat → Int32) (len : Nat) : Nat → Nat → Nat
  | 0, a => a
  | d + 1, a => if a < len ∧ t a = 32 then z_sk t len d (a + 1) else a
theorem z_sk_ge (t : Nat → Int32) (len : Nat) : ∀ d a, a ≤ z_sk t len d a ∧ z_sk t len d a ≤ max a len := by
  intro d
  induction d with
  | zero => intro a; exact ⟨Nat.le_refl _, by simp only [z_sk]; omega⟩
  | succ d ih =>
    intro a
    simp only [z_sk]
    split
    · have := ih (a + 1); omega
    · omega
abbrev z_s (t : Nat → Int32) (len a : Nat) : Nat := z_sk t len 31 a
theorem z_sb (t : Nat → Int32) (len a : Nat) : a ≤ z_s t len a ∧ z_s t len a ≤ max a len := z_sk_ge t len 31 a
def z_dg (t : Nat → Int32) (len : Nat) : Nat → Nat → Nat → Nat × Nat
  | 0, a, v => (a, v)
  | d + 1, a, v => if a < len ∧ 48 ≤ t a ∧ t a ≤ 57 then z_dg t len d (a + 1) (min 100 (v * 10 + (t a).toNatClampNeg - 48)) else (a, v)
theorem z_dg_ge (t : Nat → Int32) (len : Nat) : ∀ d a v, a ≤ (z_dg t len d a v).1 ∧ (z_dg t len d a v).1 ≤ max a len ∧ (v ≤ 100 → (z_dg t len d a v).2 ≤ 100) := by
  intro d
  induction d with
  | zero => intro a v; simp only [z_dg]; omega
  | succ d ih =>
    intro a v
    simp only [z_dg]
    split
    · obtain ⟨h1, h2, h3⟩ := ih (a + 1) (min 100 (v * 10 + (t a).toNatClampNeg - 48))
      exact ⟨by omega, by omega, fun _ => h3 (by omega)⟩
    · omega
def z_cla (t : Nat → Int32) (len a : Nat) : Nat × Option (Nat × Nat × Bool) :=
  if z_s t len a < len ∧ (t (z_s t len a) = 112 ∨ t (z_s t len a) = 114) then
    (if (z_dg t len 31 (z_s t len (z_s t len a + 1)) 0).1 = z_s t len (z_s t len a + 1) ∨ 99 < (z_dg t len 31 (z_s t len (z_s t len a + 1)) 0).2 then (z_s t len (z_s t len a + 1), none)
    else if z_s t len (z_dg t len 31 (z_s t len (z_s t len a + 1)) 0).1 < len ∧ (t (z_s t len (z_dg t len 31 (z_s t len (z_s t len a + 1)) 0).1) = 82 ∨ t (z_s t len (z_dg t len 31 (z_s t len (z_s t len a + 1)) 0).1) = 78) then
      (z_s t len (z_dg t len 31 (z_s t len (z_s t len a + 1)) 0).1 + 1, some (if t (z_s t len a) = 112 then 0 else 1, (z_dg t len 31 (z_s t len (z_s t len a + 1)) 0).2, decide (t (z_s t len (z_dg t len 31 (z_s t len (z_s t len a + 1)) 0).1) = 82)))
    else (z_s t len (z_dg t len 31 (z_s t len (z_s t len a + 1)) 0).1, none))
  else (z_s t len a, none)
def z_ap (dl : Lw) (c : Option (Nat × Nat × Bool)) : Lw := match c with
  | none => dl
  | some (k, v, b) => fun i => if i = k then some (v, b) else dl i
/-- the class's tape, with the place -/
def TC (σ : Sg) (t : Nat → Int32) (len a : Nat) : Prop := σ 15 1 = nI len ∧ σ 15 2 = nI a ∧ ∀ i, i < len → σ 16 i = t i
theorem c_here {σ : Sg} {t : Nat → Int32} {len a : Nat} (h : TC σ t len a) (hl : len ≤ 30) (ha : a ≤ 40) : f_X0_here σ = some (σ, if a < len then t a else -4) := by
  obtain ⟨h1, h2, h3⟩ := h
  unfold f_X0_here
  rw [h1, h2]
  by_cases q : a < len
  · rw [if_neg (nI_ge q (by omega)), r_at (a := 16) (n := 30) σ (show a < 30 by omega) (by decide), b_some, if_pos q, h3 a q]
  · rw [if_pos (nI_le (by omega) (by omega)), if_neg q]
theorem TC_pl {σ : Sg} {t : Nat → Int32} {len a a' : Nat} (h : TC σ t len a) : TC (q_wr σ 15 2 (nI a')) t len a' := by
  obtain ⟨h1, h2, h3⟩ := h
  refine ⟨by rw [w_at, if_neg (by decide)]; exact h1, by rw [w_at, if_pos ⟨rfl, rfl⟩], fun i hi => by rw [w_at, if_neg (by omega)]; exact h3 i hi⟩
abbrev F15 (σ σ' : Sg) : Prop := ∀ o k, ¬ (o = 15 ∧ k = 2) → σ' o k = σ o k
theorem c_skipL {t : Nat → Int32} {len : Nat} (hl : len ≤ 30) : ∀ (d a q : Nat) (σ : Sg), len ≤ a + d → d < q → a ≤ 40 → TC σ t len a → ∃ σ', f_X0_skipBlanks_L0 q σ = some (σ', 0) ∧ TC σ' t len (z_sk t len d a) ∧ F15 σ σ' := by
  intro d
  induction d with
  | zero =>
    intro a q σ h1 h2 h3 h
    obtain ⟨q, rfl⟩ : ∃ p, q = p + 1 := ⟨q - 1, by omega⟩
    refine ⟨σ, ?_, h, fun _ _ _ => rfl⟩
    show s_X0_skipBlanks_L0 (f_X0_skipBlanks_L0 q) σ = _
    unfold s_X0_skipBlanks_L0
    rw [h.1, h.2.1, if_pos (nI_le (by omega) (by omega))]
  | succ d ih =>
    intro a q σ h1 h2 h3 h
    obtain ⟨q, rfl⟩ : ∃ p, q = p + 1 := ⟨q - 1, by omega⟩
    show ∃ σ', s_X0_skipBlanks_L0 (f_X0_skipBlanks_L0 q) σ = some (σ', 0) ∧ _
    unfold s_X0_skipBlanks_L0
    by_cases q1 : a < len
    · rw [c_here h hl h3, h.1, h.2.1, if_neg (nI_ge q1 (by omega)), b_some, if_pos q1]
      by_cases q2 : t a = 32
      · rw [if_pos q2, ls_eq, h.2.1, nI_1]
        obtain ⟨σ', g1, g2, g3⟩ := ih (a + 1) q (q_wr σ 15 2 (nI (a + 1))) (by omega) (by omega) (by omega) (TC_pl h)
        refine ⟨σ', g1, ?_, fun o k ho => by rw [g3 o k ho, w_at, if_neg ho]⟩
        simp only [z_sk, if_pos (show a < len ∧ t a = 32 from ⟨q1, q2⟩)]
        exact g2
      · rw [if_neg q2]
        refine ⟨σ, rfl, ?_, fun _ _ _ => rfl⟩
        simp only [z_sk, if_neg (show ¬ (a < len ∧ t a = 32) from fun z => q2 z.2)]
        exact h
    · rw [h.1, h.2.1, if_pos (nI_le (by omega) (by omega))]
      refine ⟨σ, rfl, ?_, fun _ _ _ => rfl⟩
      simp only [z_sk, if_neg (show ¬ (a < len ∧ t a = 32) from fun z => q1 z.1)]
      exact h
theorem c_skip {σ : Sg} {t : Nat → Int32} {len a : Nat} (hl : len ≤ 30) (ha : a ≤ 40) (h : TC σ t len a) : ∃ σ', f_X0_skipBlanks σ = some (σ', 0) ∧ TC σ' t len (z_s t len a) ∧ F15 σ σ' := c_skipL hl 31 a 1000 σ (by omega) (by omega) ha h
theorem c_atEnd {σ : Sg} {t : Nat → Int32} {len a : Nat} (hl : len ≤ 30) (ha : a ≤ 40) (h : TC σ t len a) : ∃ σ', f_X0_atEnd σ = some (σ', if len ≤ z_s t len a then 1 else 0) ∧ TC σ' t len (z_s t len a) ∧ F15 σ σ' := by
  obtain ⟨σ', g1, g2, g3⟩ := c_skip hl ha h
  refine ⟨σ', ?_, g2, g3⟩
  have hb := z_sb t len a
  unfold f_X0_atEnd
  rw [g1, b_some, g2.1, g2.2.1]
  by_cases q : len ≤ z_s t len a
  · rw [if_pos q, if_neg (nI_nlt q (by omega))]
  · rw [if_neg q, if_pos (nI_lt (by omega) (by omega))]
/-- a byte of the tape as a number -/
theorem z_tape {t : Nat → Int32} {len : Nat} (ht : ∀ i, i < len → 32 ≤ t i ∧ t i ≤ 126) {a : Nat} (ha : a < len) : ∃ c, 32 ≤ c ∧ c ≤ 126 ∧ t a = nI c := by
  obtain ⟨h1, h2⟩ := ht a ha
  rw [z_le] at h1 h2
  have e1 : (32 : Int32).toInt = 32 := rfl
  have e2 : (126 : Int32).toInt = 126 := rfl
  rcases z_idx (t a) (n := 127) (by decide) with h | h | ⟨c, hc, e⟩
  · rw [z_lt] at h; have e : (0 : Int32).toInt = 0 := rfl; omega
  · rw [z_le, z_nI (by decide)] at h; omega
  · refine ⟨c, ?_, by omega, e⟩
    rw [e, z_nI (by omega)] at h1
    omega
theorem c_numL {t : Nat → Int32} {len : Nat} (hl : len ≤ 30) (ht : ∀ i, i < len → 32 ≤ t i ∧ t i ≤ 126) {s0 : Nat} : ∀ (d a v q : Nat) (σ : Sg), len ≤ a + d → d < q → a ≤ 40 → v ≤ 100 → TC σ t len a →
    ∃ σ', f_X0_readNumber_L7 q σ (nI s0) (nI v) = f_X0_readNumber_J63 σ' (nI s0) (nI (z_dg t len d a v).2) ∧ TC σ' t len (z_dg t len d a v).1 ∧ F15 σ σ' := by
  intro d
  induction d with
  | zero =>
    intro a v q σ h1 h2 h3 h4 h
    obtain ⟨q, rfl⟩ : ∃ p, q = p + 1 := ⟨q - 1, by omega⟩
    refine ⟨σ, ?_, h, fun _ _ _ => rfl⟩
    show s_X0_readNumber_L7 (f_X0_readNumber_L7 q) σ (nI s0) (nI v) = _
    unfold s_X0_readNumber_L7
    rw [h.1, h.2.1, if_pos (nI_le (by omega) (by omega))]
    rfl
  | succ d ih =>
    intro a v q σ h1 h2 h3 h4 h
    obtain ⟨q, rfl⟩ : ∃ p, q = p + 1 := ⟨q - 1, by omega⟩
    show ∃ σ', s_X0_readNumber_L7 (f_X0_readNumber_L7 q) σ (nI s0) (nI v) = _ ∧ _
    unfold s_X0_readNumber_L7
    by_cases q1 : a < len
    · rw [c_here h hl h3, h.1, h.2.1, if_neg (nI_ge q1 (by omega)), b_some, if_pos q1, r_within, b_some]
      by_cases q2 : 48 ≤ t a ∧ t a ≤ 57
      · rw [if_pos q2, if_neg (by decide), c_here h hl h3, b_some, if_pos q1]
        obtain ⟨c, hc1, hc2, hc⟩ := z_tape ht q1
        have hc3 : 48 ≤ c ∧ c ≤ 57 := by
          rw [hc] at q2
          have := (nI_leI (a := 48) (b := c) (by omega) (by omega)).mp q2.1
          have := (nI_leI (a := c) (b := 57) (by omega) (by omega)).mp q2.2
          omega
        have e1 : ((nI v * (10 : Int32)) + t a) - (48 : Int32) = nI (v * 10 + c - 48) := by
          rw [hc, show nI v * (10 : Int32) = nI (v * 10) from (Int32.ofNat_mul v 10).symm, nI_add]
          apply Int32.toInt_inj.mp
          have e48 : (48 : Int32).toInt = 48 := rfl
          rw [z_sub (by rw [z_nI (by omega), e48]; omega), z_nI (by omega), z_nI (by omega), e48]
          omega
        have e2 : (if nI (v * 10 + c - 48) < (100 : Int32) then nI (v * 10 + c - 48) else (100 : Int32)) = nI (min 100 (v * 10 + c - 48)) := by
          by_cases z : v * 10 + c - 48 < 100
          · rw [if_pos (show nI (v * 10 + c - 48) < 100 from nI_lt (b := 100) z (by omega)), Nat.min_eq_right (by omega)]
          · rw [if_neg (show ¬ nI (v * 10 + c - 48) < 100 from nI_nlt (b := 100) (by omega) (by omega)), Nat.min_eq_left (by omega)]; rfl
        rw [e1, e2, l_eq, ls_eq, h.2.1, nI_1]
        obtain ⟨σ', g1, g2, g3⟩ := ih (a + 1) (min 100 (v * 10 + c - 48)) q (q_wr σ 15 2 (nI (a + 1))) (by omega) (by omega) (by omega) (by omega) (TC_pl h)
        have e3 : z_dg t len (d + 1) a v = z_dg t len d (a + 1) (min 100 (v * 10 + c - 48)) := by
          show (if a < len ∧ 48 ≤ t a ∧ t a ≤ 57 then z_dg t len d (a + 1) (min 100 (v * 10 + (t a).toNatClampNeg - 48)) else (a, v)) = _
          rw [if_pos ⟨q1, q2⟩, hc, z_cl (show c < 2147483648 by omega)]
        rw [e3]
        exact ⟨σ', g1, g2, fun o k ho => by rw [g3 o k ho, w_at, if_neg ho]⟩
      · rw [if_neg q2, if_pos rfl]
        have e3 : z_dg t len (d + 1) a v = (a, v) := by
          simp only [z_dg, if_neg (show ¬ (a < len ∧ 48 ≤ t a ∧ t a ≤ 57) from fun z => q2 z.2)]
        rw [e3]
        exact ⟨σ, rfl, h, fun _ _ _ => rfl⟩
    · rw [h.1, h.2.1, if_pos (nI_le (by omega) (by omega))]
      have e3 : z_dg t len (d + 1) a v = (a, v) := by
        simp only [z_dg, if_neg (show ¬ (a < len ∧ 48 ≤ t a ∧ t a ≤ 57) from fun z => q1 z.1)]
      rw [e3]
      exact ⟨σ, rfl, h, fun _ _ _ => rfl⟩
theorem c_num {σ : Sg} {t : Nat → Int32} {len a : Nat} (hl : len ≤ 30) (ht : ∀ i, i < len → 32 ≤ t i ∧ t i ≤ 126) (ha : a ≤ 40) (h : TC σ t len a) :
    ∃ σ', f_X0_readNumber σ = some (σ', if (z_dg t len 31 a 0).1 = a ∨ 99 < (z_dg t len 31 a 0).2 then -4 else nI (z_dg t len 31 a 0).2) ∧ TC σ' t len (if (z_dg t len 31 a 0).1 = a ∨ 99 < (z_dg t len 31 a 0).2 then a else (z_dg t len 31 a 0).1) ∧ F15 σ σ' := by
  obtain ⟨σ', g1, g2, g3⟩ := c_numL (s0 := a) hl ht 31 a 0 1000 σ (by omega) (by omega) ha (by omega) h
  obtain ⟨b1, b2, b3⟩ := z_dg_ge t len 31 a 0
  have e : f_X0_readNumber σ = f_X0_readNumber_J63 σ' (nI a) (nI (z_dg t len 31 a 0).2) := by
    rw [← g1]
    unfold f_X0_readNumber
    rw [l_eq, h.2.1]
    rfl
  rw [e]
  unfold f_X0_readNumber_J63
  rw [g2.2.1]
  by_cases q1 : (z_dg t len 31 a 0).1 = a
  · rw [if_pos (by rw [q1]), if_pos (Or.inl q1), if_pos (Or.inl q1)]
    refine ⟨σ', rfl, ?_, g3⟩
    rw [q1] at g2
    exact g2
  · rw [if_neg (by rw [nI_eq (by omega) (by omega)]; exact q1)]
    by_cases q2 : 99 < (z_dg t len 31 a 0).2
    · rw [if_neg (show ¬ nI (z_dg t len 31 a 0).2 ≤ 99 from nI_ge (a := 99) q2 (by omega)), if_pos (Or.inr q2), if_pos (Or.inr q2), ls_eq]
      refine ⟨_, rfl, TC_pl g2, fun o k ho => by rw [w_at, if_neg ho]; exact g3 o k ho⟩
    · rw [if_pos (show nI (z_dg t len 31 a 0).2 ≤ 99 from nI_le (b := 99) (by omega) (by omega)), if_neg (fun z => z.elim q1 q2), if_neg (fun z => z.elim q1 q2)]
      exact ⟨σ', rfl, g2, g3⟩
/-- the class's draft -/
def DC (σ : Sg) (dl : Lw) : Prop := ∀ k, k < 2 → match dl k with
  | none => σ 20 k = -4
  | some (v, b) => σ 19 k = nI v ∧ σ 20 k = z_let b
theorem DC_f {σ σ' : Sg} {dl : Lw} (h1 : ∀ k, σ' 19 k = σ 19 k) (h2 : ∀ k, σ' 20 k = σ 20 k) (h : DC σ dl) : DC σ' dl := by
  intro k hk
  have := h k hk
  rw [h1, h2]
  exact this
theorem DC_ap {σ : Sg} {dl : Lw} (h : DC σ dl) {k : Nat} (hk : k < 2) (v : Nat) (b : Bool) : DC (q_wr (q_wr σ 19 k (nI v)) 20 k (z_let b)) (z_ap dl (some (k, v, b))) := by
  intro i hi
  have := h i hi
  by_cases hik : i = k
  · subst hik
    simp only [z_ap, if_true]
    refine ⟨by rw [w_at, if_neg (by omega), w_at, if_pos ⟨rfl, rfl⟩], by rw [w_at, if_pos ⟨rfl, rfl⟩]⟩
  · simp only [z_ap, if_neg hik]
    rw [w_at, if_neg (by omega), w_at, if_neg (by omega), w_at, if_neg (by omega), w_at, if_neg (by omega)]
    exact this
abbrev F15d (σ σ' : Sg) : Prop := ∀ o k, ¬ (o = 15 ∧ k = 2) → o ≠ 19 → o ≠ 20 → σ' o k = σ o k
theorem TC_d {σ : Sg} {t : Nat → Int32} {len a : Nat} (h : TC σ t len a) (k v k' v' : _) : TC (q_wr (q_wr σ 19 k v) 20 k' v') t len a := by
  obtain ⟨h1, h2, h3⟩ := h
  refine ⟨by rw [w_at, if_neg (by omega), w_at, if_neg (by omega)]; exact h1, by rw [w_at, if_neg (by omega), w_at, if_neg (by omega)]; exact h2, fun i hi => by rw [w_at, if_neg (by omega), w_at, if_neg (by omega)]; exact h3 i hi⟩
theorem c_clause {σ : Sg} {t : Nat → Int32} {len a : Nat} {dl : Lw} (hl : len ≤ 30) (ht : ∀ i, i < len → 32 ≤ t i ∧ t i ≤ 126) (ha : a ≤ 31) (h : TC σ t len a) (hd : DC σ dl) :
    ∃ σ', f_X0_readClause σ = some (σ', if (z_cla t len a).2 = none then 0 else 1) ∧ TC σ' t len (z_cla t len a).1 ∧ DC σ' (z_ap dl (z_cla t len a).2) ∧ F15d σ σ' := by
  obtain ⟨σ1, g1, g2, g3⟩ := c_skip hl (by omega) h
  have d1 : DC σ1 dl := DC_f (fun k => g3 19 k (by omega)) (fun k => g3 20 k (by omega)) hd
  have fd1 : F15d σ σ1 := fun o k h1 _ _ => g3 o k h1
  have ba := z_sb t len a
  have bb := z_sb t len (z_s t len a + 1)
  have bc := z_dg_ge t len 31 (z_s t len (z_s t len a + 1)) 0
  have bd := z_sb t len (z_dg t len 31 (z_s t len (z_s t len a + 1)) 0).1
  unfold f_X0_readClause
  rw [g1, b_some, c_here g2 hl (by omega), b_some]
  by_cases q1 : z_s t len a < len ∧ (t (z_s t len a) = 112 ∨ t (z_s t len a) = 114)
  · rw [if_pos q1.1]
    have J : ∃ σ', f_X0_readClause_J23 σ1 (t (z_s t len a)) = some (σ', if (z_cla t len a).2 = none then 0 else 1) ∧ TC σ' t len (z_cla t len a).1 ∧ DC σ' (z_ap dl (z_cla t len a).2) ∧ F15d σ σ' := by
      unfold f_X0_readClause_J23
      rw [ls_eq, g2.2.1, nI_1]
      obtain ⟨σ2, e1, e2, e3⟩ := c_skip hl (a := z_s t len a + 1) (by omega) (TC_pl (a' := z_s t len a + 1) g2)
      rw [e1, b_some]
      obtain ⟨σ3, n1, n2, n3⟩ := c_num hl ht (a := z_s t len (z_s t len a + 1)) (by omega) e2
      rw [n1, b_some]
      have f3 : F15 σ σ3 := fun o k ho => by rw [n3 o k ho, e3 o k ho, w_at, if_neg ho, g3 o k ho]
      have d3 : DC σ3 dl := DC_f (fun k => f3 19 k (by omega)) (fun k => f3 20 k (by omega)) hd
      by_cases q2 : (z_dg t len 31 (z_s t len (z_s t len a + 1)) 0).1 = z_s t len (z_s t len a + 1) ∨ 99 < (z_dg t len 31 (z_s t len (z_s t len a + 1)) 0).2
      · rw [if_pos q2, if_pos rfl]
        rw [if_pos q2] at n2
        have e : z_cla t len a = (z_s t len (z_s t len a + 1), none) := by unfold z_cla; rw [if_pos q1, if_pos q2]
        rw [e]
        exact ⟨σ3, rfl, n2, d3, fun o k h1 _ _ => f3 o k h1⟩
      · rw [if_neg q2] at n2
        have hv : (z_dg t len 31 (z_s t len (z_s t len a + 1)) 0).2 ≤ 99 := by
          by_cases z : 99 < (z_dg t len 31 (z_s t len (z_s t len a + 1)) 0).2
          · exact absurd (Or.inr z) q2
          · omega
        rw [if_neg q2, if_neg ((by decide : ∀ k, k < 100 → ¬ nI k = -4) _ (by omega))]
        obtain ⟨σ4, s1, s2, s3⟩ := c_skip hl (a := (z_dg t len 31 (z_s t len (z_s t len a + 1)) 0).1) (by omega) n2
        have f4 : F15 σ σ4 := fun o k ho => by rw [s3 o k ho, f3 o k ho]
        have d4 : DC σ4 dl := DC_f (fun k => f4 19 k (by omega)) (fun k => f4 20 k (by omega)) hd
        have hb4 : z_s t len (z_dg t len 31 (z_s t len (z_s t len a + 1)) 0).1 ≤ 40 := by omega
        rw [s1, b_some, c_here s2 hl hb4, b_some]
        by_cases q3 : z_s t len (z_dg t len 31 (z_s t len (z_s t len a + 1)) 0).1 < len ∧ (t (z_s t len (z_dg t len 31 (z_s t len (z_s t len a + 1)) 0).1) = 82 ∨ t (z_s t len (z_dg t len 31 (z_s t len (z_s t len a + 1)) 0).1) = 78)
        · rw [if_pos q3.1]
          have e : z_cla t len a = (z_s t len (z_dg t len 31 (z_s t len (z_s t len a + 1)) 0).1 + 1, some (if t (z_s t len a) = 112 then 0 else 1, (z_dg t len 31 (z_s t len (z_s t len a + 1)) 0).2, decide (t (z_s t len (z_dg t len 31 (z_s t len (z_s t len a + 1)) 0).1) = 82))) := by unfold z_cla; rw [if_pos q1, if_neg q2, if_pos q3]
          have J73 : f_X0_readClause_J73 σ4 (t (z_s t len a)) (nI (z_dg t len 31 (z_s t len (z_s t len a + 1)) 0).2) (t (z_s t len (z_dg t len 31 (z_s t len (z_s t len a + 1)) 0).1)) = some (q_wr (q_wr (q_wr σ4 15 2 (nI (z_s t len (z_dg t len 31 (z_s t len (z_s t len a + 1)) 0).1 + 1))) 19 (if t (z_s t len a) = 112 then 0 else 1) (nI (z_dg t len 31 (z_s t len (z_s t len a + 1)) 0).2)) 20 (if t (z_s t len a) = 112 then 0 else 1) (t (z_s t len (z_dg t len 31 (z_s t len (z_s t len a + 1)) 0).1)), 1) := by
            unfold f_X0_readClause_J73
            rw [ls_eq, s2.2.1, nI_1]
            by_cases q5 : t (z_s t len a) = 112
            · rw [if_pos q5, if_pos q5, q5]
              unfold f_X0_readClause_J98
              rw [show (0 : Int32) = nI 0 from rfl, r_set (a := 19) (n := 2) _ _ (by decide) (by decide), b_some, if_pos rfl, r_set (a := 20) (n := 2) _ _ (by decide) (by decide), b_some]
            · rw [if_neg q5, if_neg q5]
              unfold f_X0_readClause_J98
              rw [show (1 : Int32) = nI 1 from rfl, r_set (a := 19) (n := 2) _ _ (by decide) (by decide), b_some, if_neg q5, r_set (a := 20) (n := 2) _ _ (by decide) (by decide), b_some]
          have hlet : t (z_s t len (z_dg t len 31 (z_s t len (z_s t len a + 1)) 0).1) = z_let (decide (t (z_s t len (z_dg t len 31 (z_s t len (z_s t len a + 1)) 0).1) = 82)) := by
            by_cases q4 : t (z_s t len (z_dg t len 31 (z_s t len (z_s t len a + 1)) 0).1) = 82
            · rw [q4]; rfl
            · rcases q3.2 with z | z
              · exact absurd z q4
              · rw [z]; rfl
          have go : ∃ σ', f_X0_readClause_J73 σ4 (t (z_s t len a)) (nI (z_dg t len 31 (z_s t len (z_s t len a + 1)) 0).2) (t (z_s t len (z_dg t len 31 (z_s t len (z_s t len a + 1)) 0).1)) = some (σ', if (z_cla t len a).2 = none then 0 else 1) ∧ TC σ' t len (z_cla t len a).1 ∧ DC σ' (z_ap dl (z_cla t len a).2) ∧ F15d σ σ' := by
            rw [e]
            refine ⟨_, J73, TC_d (TC_pl s2) _ _ _ _, ?_, fun o k h1 h2 h3 => ?_⟩
            · have dd : DC (q_wr σ4 15 2 (nI (z_s t len (z_dg t len 31 (z_s t len (z_s t len a + 1)) 0).1 + 1))) dl := DC_f (fun k => by rw [w_at, if_neg (by omega)]) (fun k => by rw [w_at, if_neg (by omega)]) d4
              have hk2 : (if t (z_s t len a) = 112 then 0 else 1) < 2 := by split <;> omega
              have := DC_ap dd hk2 (z_dg t len 31 (z_s t len (z_s t len a + 1)) 0).2 (decide (t (z_s t len (z_dg t len 31 (z_s t len (z_s t len a + 1)) 0).1) = 82))
              rw [← hlet] at this
              exact this
            · rw [w_at, if_neg (fun z => h3 z.1), w_at, if_neg (fun z => h2 z.1), w_at, if_neg h1]
              exact f4 o k h1
          by_cases q4 : t (z_s t len (z_dg t len 31 (z_s t len (z_s t len a + 1)) 0).1) = 82
          · rw [if_pos q4]
            exact go
          · rcases q3.2 with z | z
            · exact absurd z q4
            · rw [if_neg q4, if_pos z]
              exact go
        · have e : z_cla t len a = (z_s t len (z_dg t len 31 (z_s t len (z_s t len a + 1)) 0).1, none) := by unfold z_cla; rw [if_pos q1, if_neg q2, if_neg q3]
          have n82 : ¬ (if z_s t len (z_dg t len 31 (z_s t len (z_s t len a + 1)) 0).1 < len then t (z_s t len (z_dg t len 31 (z_s t len (z_s t len a + 1)) 0).1) else -4) = 82 := by
            intro z
            by_cases y : z_s t len (z_dg t len 31 (z_s t len (z_s t len a + 1)) 0).1 < len
            · rw [if_pos y] at z; exact q3 ⟨y, Or.inl z⟩
            · rw [if_neg y] at z; revert z; decide
          have n78 : ¬ (if z_s t len (z_dg t len 31 (z_s t len (z_s t len a + 1)) 0).1 < len then t (z_s t len (z_dg t len 31 (z_s t len (z_s t len a + 1)) 0).1) else -4) = 78 := by
            intro z
            by_cases y : z_s t len (z_dg t len 31 (z_s t len (z_s t len a + 1)) 0).1 < len
            · rw [if_pos y] at z; exact q3 ⟨y, Or.inr z⟩
            · rw [if_neg y] at z; revert z; decide
          rw [if_neg n82, if_neg n78, e]
          exact ⟨σ4, rfl, s2, d4, fun o k h1 _ _ => f4 o k h1⟩
    by_cases q5 : t (z_s t len a) = 112
    · rw [if_pos q5]
      exact J
    · rcases q1.2 with z | z
      · exact absurd z q5
      · rw [if_neg q5, if_pos z]
        exact J
  · have e : z_cla t len a = (z_s t len a, none) := by unfold z_cla; rw [if_neg q1]
    have n1 : ¬ (if z_s t len a < len then t (z_s t len a) else -4) = 112 := by
      intro z
      by_cases y : z_s t len a < len
      · rw [if_pos y] at z; exact q1 ⟨y, Or.inl z⟩
      · rw [if_neg y] at z; revert z; decide
    have n2 : ¬ (if z_s t len a < len then t (z_s t len a) else -4) = 114 := by
      intro z
      by_cases y : z_s t len a < len
      · rw [if_pos y] at z; exact q1 ⟨y, Or.inr z⟩
      · rw [if_neg y] at z; revert z; decide
    rw [if_neg n1, if_neg n2, e]
    exact ⟨σ1, rfl, g2, d1, fd1⟩
