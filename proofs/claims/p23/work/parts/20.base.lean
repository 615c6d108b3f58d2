/-! THE MATHEMATICS over the functions f_: numbers, cells, the smallest methods -/
theorem z_lt (a b : Int32) : a < b ↔ a.toInt < b.toInt := Int32.lt_iff_toInt_lt
theorem z_le (a b : Int32) : a ≤ b ↔ a.toInt ≤ b.toInt := Int32.le_iff_toInt_le
theorem z_eq (a b : Int32) : a = b ↔ a.toInt = b.toInt := Int32.toInt_inj.symm
theorem z_rng (a : Int32) : -2147483648 ≤ a.toInt ∧ a.toInt < 2147483648 := ⟨a.minValue_le_toInt, by have := a.toInt_lt; omega⟩
theorem z_bmod {x : Int} (h : -2147483648 ≤ x ∧ x < 2147483648) : x.bmod (2 ^ 32) = x := by
  rw [Int.bmod_def]
  have : ((2 ^ 32 : Nat) : Int) = 4294967296 := by decide
  rw [this]
  omega
theorem z_add {a b : Int32} (h : -2147483648 ≤ a.toInt + b.toInt ∧ a.toInt + b.toInt < 2147483648) : (a + b).toInt = a.toInt + b.toInt := by rw [Int32.toInt_add]; exact z_bmod h
theorem z_sub {a b : Int32} (h : -2147483648 ≤ a.toInt - b.toInt ∧ a.toInt - b.toInt < 2147483648) : (a - b).toInt = a.toInt - b.toInt := by rw [Int32.toInt_sub]; exact z_bmod h
theorem z_mul {a b : Int32} (h : -2147483648 ≤ a.toInt * b.toInt ∧ a.toInt * b.toInt < 2147483648) : (a * b).toInt = a.toInt * b.toInt := by rw [Int32.toInt_mul]; exact z_bmod h
theorem z_neg {a : Int32} (h : -2147483648 ≤ -a.toInt ∧ -a.toInt < 2147483648) : (-a).toInt = -a.toInt := by rw [Int32.toInt_neg]; exact z_bmod h
theorem z_div {a b : Int32} (h : -2147483648 ≤ a.toInt.tdiv b.toInt ∧ a.toInt.tdiv b.toInt < 2147483648) : (a / b).toInt = a.toInt.tdiv b.toInt := by rw [Int32.toInt_div]; exact z_bmod h
/-- the literals that occur -/
theorem z_lits : (0 : Int32).toInt = 0 ∧ (1 : Int32).toInt = 1 ∧ (2 : Int32).toInt = 2 ∧ (3 : Int32).toInt = 3 ∧ (4 : Int32).toInt = 4 ∧ (5 : Int32).toInt = 5 ∧ (6 : Int32).toInt = 6 ∧ (7 : Int32).toInt = 7 ∧ (8 : Int32).toInt = 8 ∧ (-1 : Int32).toInt = -1 ∧ (-4 : Int32).toInt = -4 := by decide
theorem z_clamp {i : Int32} (h : 0 ≤ i.toInt) : (i.toNatClampNeg : Int) = i.toInt := by
  show (i.toInt.toNat : Int) = i.toInt
  omega
theorem z_nI {n : Nat} (h : n < 2147483648) : (nI n).toInt = n := nI_toInt (by omega)
theorem z_cl {n : Nat} (h : n < 2147483648) : (nI n).toNatClampNeg = n := nI_clamp (by omega)
/-- an index is below, or a number within, or beyond -/
theorem z_idx (i : Int32) {n : Nat} (hn : n < 2147483648) : (i < 0) ∨ (nI n ≤ i) ∨ ∃ k, k < n ∧ i = nI k := by
  by_cases h : i < 0
  · exact Or.inl h
  · by_cases h2 : nI n ≤ i
    · exact Or.inr (Or.inl h2)
    · obtain ⟨k, hk, rfl⟩ := nI_of h
      refine Or.inr (Or.inr ⟨k, ?_, rfl⟩)
      rw [z_le, z_nI hn, z_nI (by omega)] at h2
      omega
/-! cells -/
theorem w_eq (σ : Sg) (o k : Nat) (v : Int32) : q_wr σ o k v o = upd (σ o) k v := by simp [q_wr]
theorem w_ne {o o' : Nat} (σ : Sg) (k : Nat) (v : Int32) (h : o' ≠ o) : q_wr σ o k v o' = σ o' := by simp [q_wr, h]
theorem w_at (σ : Sg) (o k o' k' : Nat) (v : Int32) : q_wr σ o k v o' k' = if o' = o ∧ k' = k then v else σ o' k' := by
  by_cases h : o' = o
  · subst h
    by_cases h2 : k' = k <;> simp [q_wr, upd, h2]
  · simp [q_wr, h]
theorem c_at (σ : Sg) (o o' k' : Nat) : q_clr σ o o' k' = if o' = o then 0 else σ o' k' := by
  by_cases h : o' = o <;> simp [q_clr, h]
theorem u_at (f : Nat → Int32) (k k' : Nat) (v : Int32) : upd f k v k' = if k' = k then v else f k' := rfl
theorem b_some (s : Sg) (r : Int32) (f : Sg → Int32 → Rs) : q_bnd (some (s, r)) f = f s r := rfl
theorem l_eq (x : Int32) (f : Int32 → Rs) : q_let x f = f x := rfl
theorem ls_eq (x : Sg) (f : Sg → Rs) : q_lets x f = f x := rfl
theorem n_bool (p : Prop) [Decidable p] : vp_nar .boolean (if p then 1 else 0) = if p then 1 else 0 := by
  by_cases h : p <;> simp [h] <;> decide
/-! the smallest methods -/
theorem r_within (σ : Sg) (a b c : Int32) : f_X5_within σ a b c = some (σ, if b ≤ a ∧ a ≤ c then 1 else 0) := by
  unfold f_X5_within
  by_cases h1 : a < b
  · rw [if_pos h1, if_neg (by rw [z_le, z_le]; rw [z_lt] at h1; omega)]
  · rw [if_neg h1]
    by_cases h2 : c < a
    · rw [if_pos h2, if_neg (by rw [z_le, z_le]; rw [z_lt] at h1 h2; omega)]
    · rw [if_neg h2, if_pos (by rw [z_le, z_le]; rw [z_lt] at h1 h2; omega)]
theorem r_isPlayer (σ : Sg) (a : Int32) : f_X5_isPlayer σ a = some (σ, if 0 ≤ a ∧ a ≤ 7 then 1 else 0) := by
  simp only [f_X5_isPlayer, r_within, b_some, n_bool, if_true]
theorem b_0 (p : Prop) [Decidable p] : ((if p then (1 : Int32) else 0) = 0) ↔ ¬ p := by
  by_cases h : p <;> simp [h]
theorem o_in {k n : Nat} (h : k < n) (hn : n < 2147483648) : ¬ q_oob (nI k) n := nI_in h (by omega)
theorem r_at {a n k : Nat} (σ : Sg) (h : k < n) (hn : n < 2147483648) : f_X5_at a n σ (nI k) = some (σ, σ a k) := by
  unfold f_X5_at
  rw [if_neg (nI_pos (by omega)), if_neg (show ¬ Int32.ofNat n ≤ nI k from nI_ge h (by omega)), if_neg (o_in h hn), z_cl (by omega)]
theorem r_at_lo {a n : Nat} {i : Int32} (σ : Sg) (h : i < 0) : f_X5_at a n σ i = some (σ, -4) := by
  unfold f_X5_at
  rw [if_pos h]
theorem r_set {a n k : Nat} (σ : Sg) (v : Int32) (h : k < n) (hn : n < 2147483648) : f_X5_set a n σ (nI k) v = some (q_wr σ a k v, 0) := by
  unfold f_X5_set
  rw [if_neg (nI_pos (by omega)), if_neg (show ¬ Int32.ofNat n ≤ nI k from nI_ge h (by omega)), if_neg (o_in h hn), z_cl (by omega)]
  rfl
/-- Arrays.fill -/
theorem r_fillL {a n : Nat} (hn : n < 2147483648) (v : Int32) : ∀ (d k q : Nat) (σ : Sg), k + d = n → d < q → ∃ σ', f_J7_fill_53178_L5 a n q σ v (nI k) (nI n) = some (σ', 0) ∧ (∀ o, o ≠ a → σ' o = σ o) ∧ ∀ i, σ' a i = if k ≤ i ∧ i < n then v else σ a i := by
  intro d
  induction d with
  | zero =>
    intro k q σ hk hq
    obtain ⟨q, rfl⟩ : ∃ p, q = p + 1 := ⟨q - 1, by omega⟩
    have : k = n := by omega
    subst this
    refine ⟨σ, ?_, fun _ _ => rfl, fun i => ?_⟩
    · show s_J7_fill_53178_L5 a k (f_J7_fill_53178_L5 a k q) σ v (nI k) (nI k) = _
      unfold s_J7_fill_53178_L5
      rw [if_pos (nI_le (Nat.le_refl _) (by omega))]
    · rw [if_neg (by omega)]
  | succ d ih =>
    intro k q σ hk hq
    obtain ⟨q, rfl⟩ : ∃ p, q = p + 1 := ⟨q - 1, by omega⟩
    obtain ⟨σ', h1, h2, h3⟩ := ih (k + 1) q (q_wr σ a k v) (by omega) (by omega)
    refine ⟨σ', ?_, fun o ho => (h2 o ho).trans (w_ne σ k v ho), fun i => ?_⟩
    · show s_J7_fill_53178_L5 a n (f_J7_fill_53178_L5 a n q) σ v (nI k) (nI n) = _
      unfold s_J7_fill_53178_L5
      rw [if_neg (nI_ge (by omega) (by omega)), if_neg (o_in (by omega) hn), z_cl (by omega), ls_eq, l_eq, nI_1]
      exact h1
    · rw [h3 i, w_at]
      by_cases hi : i = k
      · subst hi
        rw [if_neg (by omega), if_pos ⟨rfl, rfl⟩, if_pos (by omega)]
      · by_cases h4 : k + 1 ≤ i ∧ i < n
        · rw [if_pos h4, if_pos (by omega)]
        · rw [if_neg h4, if_neg (by omega), if_neg (by omega)]
theorem r_fill {a n : Nat} (hn : n < 999) (v : Int32) (σ : Sg) : ∃ σ', f_J7_fill_53178 a n σ v = some (σ', 0) ∧ (∀ o, o ≠ a → σ' o = σ o) ∧ ∀ i, σ' a i = if i < n then v else σ a i := by
  obtain ⟨σ', h1, h2, h3⟩ := r_fillL (a := a) (n := n) (by omega) v n 0 1000 σ (by omega) (by omega)
  refine ⟨σ', ?_, h2, fun i => ?_⟩
  · unfold f_J7_fill_53178
    rw [l_eq]
    exact h1
  · rw [h3 i]
    by_cases h : i < n
    · rw [if_pos h, if_pos (by omega)]
    · rw [if_neg h, if_neg (by omega)]
