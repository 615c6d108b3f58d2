/-! the tape -/
def z_by (w : Int64) (k : Nat) : Int32 := ((w >>> (((8 : Int32) * nI k).toInt64 &&& 63)) &&& (255 : Int64)).toInt32
theorem z_sh : ∀ k, k < 8 → (((8 : Int32) * nI k).toInt64 &&& 63) = Int64.ofNat (8 * k) ∧ (((8 : Int32) * nI k).toInt64.toUInt64 &&& Int64.toUInt64 63) = UInt64.ofNat (8 * k) := by decide
theorem z_byC (w : Int64) {k : Nat} (hk : k < 8) : (((w.toUInt64 >>> (((8 : Int32) * nI k).toInt64.toUInt64 &&& Int64.toUInt64 63)).toInt64) &&& (255 : Int64)).toInt32 = z_by w k := by
  unfold z_by
  obtain ⟨h1, h2⟩ := z_sh k hk
  rw [h1, h2]
  congr 1
  apply Int64.toBitVec_inj.1
  apply BitVec.eq_of_getLsbD_eq
  intro i hi
  have e1 : ((w.toUInt64 >>> UInt64.ofNat (8 * k)).toInt64 &&& (255 : Int64)).toBitVec = (w.toBitVec >>> (8 * k)) &&& 255#64 := by
    have : (8 * k) % 64 = 8 * k := by omega
    show (w.toBitVec >>> ((UInt64.ofNat (8 * k)).toBitVec % 64)) &&& 255#64 = _
    congr 1
    have h3 : ∀ k, k < 8 → ((UInt64.ofNat (8 * k)).toBitVec % 64) = BitVec.ofNat 64 (8 * k) := by decide
    rw [h3 k hk]
    show w.toBitVec >>> (BitVec.ofNat 64 (8 * k)).toNat = _
    rw [BitVec.toNat_ofNat, Nat.mod_eq_of_lt (by omega)]
  have e2 : (w >>> Int64.ofNat (8 * k) &&& (255 : Int64)).toBitVec = (w.toBitVec.sshiftRight (8 * k)) &&& 255#64 := by
    show (w.toBitVec.sshiftRight ((Int64.ofNat (8 * k)).toBitVec.smod 64).toNat) &&& 255#64 = _
    congr 2
    have h3 : ∀ k, k < 8 → (((Int64.ofNat (8 * k)).toBitVec.smod 64).toNat) = 8 * k := by decide
    exact h3 k hk
  rw [e1, e2]
  simp only [BitVec.getLsbD_and, BitVec.getLsbD_ushiftRight, BitVec.getLsbD_sshiftRight]
  by_cases h8 : i < 8
  · have h64 : 8 * k + i < 64 := by omega
    have h65 : ¬ 64 ≤ i := by omega
    simp [h64, hi, h65]
  · have : ∀ i, i < 64 → ¬ i < 8 → (255#64).getLsbD i = false := by decide
    simp [this i hi h8]
def z_app (t : Nat → Int32) (len : Nat) (w : Int64) (j : Nat) : Nat → Int32 := fun i => if i < len then t i else z_by w (j - 1 - (i - len))
theorem nI_m1 (j : Nat) : nI j + (-1) = nI j - 1 := by rw [Int32.sub_eq_add_neg]
theorem nI_0m : nI 0 - 1 < 0 := by decide
theorem r_byteOf (σ : Sg) (w : Int64) {k : Nat} (hk : k < 8) : f_X0_byteOf σ w (nI k) = some (σ, z_by w k) := by
  unfold f_X0_byteOf
  rw [z_byC w hk]
theorem c_w64 (w : Int64) : ∀ (j q : Nat) (σ : Sg) (len : Nat) (t : Nat → Int32), j < q → j ≤ 8 → len + j ≤ 30 → σ 15 1 = nI len → (∀ i, i < len → σ 16 i = t i) →
    ∃ σ', f_X0_append_L64 q σ w (nI j - 1) = some (σ', nI (len + j)) ∧ σ' 15 1 = nI (len + j) ∧ (∀ i, i < len + j → σ' 16 i = z_app t len w j i) ∧ ∀ o k, o ≠ 16 → ¬ (o = 15 ∧ k = 1) → σ' o k = σ o k := by
  intro j
  induction j with
  | zero =>
    intro q σ len t hq h8 hl h1 h2
    obtain ⟨q, rfl⟩ : ∃ p, q = p + 1 := ⟨q - 1, by omega⟩
    refine ⟨σ, ?_, h1, fun i hi => ?_, fun _ _ _ _ => rfl⟩
    · show s_X0_append_L64 (f_X0_append_L64 q) σ w (nI 0 - 1) = _
      unfold s_X0_append_L64
      rw [if_pos nI_0m, h1]
      rfl
    · simp only [z_app]
      rw [if_pos (by omega), h2 i (by omega)]
  | succ j ih =>
    intro q σ len t hq h8 hl h1 h2
    obtain ⟨q, rfl⟩ : ∃ p, q = p + 1 := ⟨q - 1, by omega⟩
    have e : nI (j + 1) - 1 = nI j := nI_pred j
    obtain ⟨σ', g1, g2, g3, g4⟩ := ih q (q_wr (q_wr σ 16 len (z_by w j)) 15 1 (nI (len + 1))) (len + 1) (z_app t len w (j + 1)) (by omega) (by omega) (by omega) (by rw [w_at, if_pos ⟨rfl, rfl⟩]) (fun i hi => by
      rw [w_at, if_neg (by omega), w_at]
      simp only [z_app]
      by_cases h : i = len
      · subst h
        rw [if_pos ⟨trivial, rfl⟩, if_neg (by omega)]
        congr 1
        omega
      · rw [if_neg (by omega), if_pos (by omega)]
        exact h2 i (by omega))
    refine ⟨σ', ?_, by rw [g2]; congr 1; omega, fun i hi => ?_, fun o k h3 h4 => ?_⟩
    · show s_X0_append_L64 (f_X0_append_L64 q) σ w (nI (j + 1) - 1) = _
      unfold s_X0_append_L64
      rw [e, if_neg (nI_pos (by omega)), r_byteOf σ w (by omega), b_some, h1, r_set (a := 16) (n := 30) σ _ (show len < 30 by omega) (by decide), b_some, ls_eq, l_eq, nI_m1]
      rw [show q_wr σ 16 len (z_by w j) 15 1 = nI len by rw [w_at, if_neg (by omega), h1], nI_1]
      rw [g1]
      congr 3
      omega
    · rw [g3 i (by omega)]
      simp only [z_app]
      by_cases h : i < len + 1
      · rw [if_pos h]
      · rw [if_neg h, if_neg (by omega)]
        congr 1
        omega
    · rw [g4 o k h3 h4, w_at, if_neg h4, w_at, if_neg (fun z => h3 z.1)]
abbrev z_ok (w : Int64) (k : Nat) : Prop := 32 ≤ z_by w k ∧ z_by w k ≤ 126
theorem c_chk (w : Int64) (σ : Sg) {n : Nat} (hn : n ≤ 8) : ∀ (d k q : Nat), k + d = n → d < q → ((∀ i, k ≤ i → i < n → z_ok w i) → f_X0_append_L15 q σ w (nI n) (nI k) = if σ 15 1 + nI n ≤ 30 then f_X0_append_L64 1000 σ w (nI n - 1) else some (σ, -3)) ∧ (¬ (∀ i, k ≤ i → i < n → z_ok w i) → f_X0_append_L15 q σ w (nI n) (nI k) = some (σ, -1)) := by
  intro d
  induction d with
  | zero =>
    intro k q hk hq
    obtain ⟨q, rfl⟩ : ∃ p, q = p + 1 := ⟨q - 1, by omega⟩
    refine ⟨fun _ => ?_, fun h => absurd (fun i h1 h2 => by omega) h⟩
    show s_X0_append_L15 (f_X0_append_L15 q) σ w (nI n) (nI k) = _
    unfold s_X0_append_L15
    rw [if_pos (nI_le (by omega) (by omega))]
    rfl
  | succ d ih =>
    intro k q hk hq
    obtain ⟨q, rfl⟩ : ∃ p, q = p + 1 := ⟨q - 1, by omega⟩
    obtain ⟨i1, i2⟩ := ih (k + 1) q (by omega) (by omega)
    have e : f_X0_append_L15 (q + 1) σ w (nI n) (nI k) = if z_ok w k then f_X0_append_L15 q σ w (nI n) (nI (k + 1)) else some (σ, -1) := by
      show s_X0_append_L15 (f_X0_append_L15 q) σ w (nI n) (nI k) = _
      unfold s_X0_append_L15
      rw [if_neg (nI_ge (by omega) (by omega)), r_byteOf σ w (by omega), b_some, r_within, b_some]
      by_cases h : z_ok w k
      · rw [if_pos h, if_pos (show 32 ≤ z_by w k ∧ z_by w k ≤ 126 from h), if_neg (by decide), l_eq, nI_1]
      · rw [if_neg h, if_neg (show ¬ (32 ≤ z_by w k ∧ z_by w k ≤ 126) from h), if_pos rfl]
    rw [e]
    by_cases h : z_ok w k
    · rw [if_pos h]
      refine ⟨fun g => i1 (fun i h1 h2 => g i (by omega) h2), fun g => i2 (fun g2 => g (fun i h1 h2 => ?_))⟩
      by_cases hi : i = k
      · subst hi; exact h
      · exact g2 i (by omega) h2
    · rw [if_neg h]
      exact ⟨fun g => absurd (g k (Nat.le_refl _) (by omega)) h, fun _ => rfl⟩
abbrev Lw : Type := Nat → Option (Nat × Bool)
def z_let (b : Bool) : Int32 := if b then 82 else 78
def RLc (σ : Sg) (t : Nat → Int32) (len : Nat) (lw : Lw) : Prop := σ 15 1 = nI len ∧ (∀ i, i < len → σ 16 i = t i) ∧ ∀ k, k < 2 → match lw k with
  | none => σ 18 k = -4
  | some (v, b) => σ 17 k = nI v ∧ σ 18 k = z_let b
theorem z_n8 {n : Int32} (h : 1 ≤ n ∧ n ≤ 8) : ∃ k, 1 ≤ k ∧ k ≤ 8 ∧ n = nI k := by
  rcases z_idx n (n := 9) (by decide) with h1 | h1 | ⟨k, hk, rfl⟩
  · rw [z_lt] at h1; rw [z_le, z_le] at h; have e : (0 : Int32).toInt = 0 := rfl; have e1 : (1 : Int32).toInt = 1 := rfl; omega
  · rw [z_le, z_nI (by decide)] at h1; rw [z_le, z_le] at h; have e : (8 : Int32).toInt = 8 := rfl; omega
  · refine ⟨k, ?_, by omega, rfl⟩
    have := h.1
    rw [z_le, z_nI (by omega)] at this
    have e1 : (1 : Int32).toInt = 1 := rfl
    omega
