/-! the game, of the class alone: what holds of its cells -/
abbrev Fc (σ τ : Sg) : Prop := ∀ o, ¬ (1 ≤ o ∧ o ≤ 14) → τ o = σ o
abbrev Fa (σ τ : Sg) : Prop := ∀ o, o < 12 ∨ 14 < o ∧ o < 200 → τ o = σ o
theorem Fa_t {a b c : Sg} (h1 : Fa a b) (h2 : Fa b c) : Fa a c := fun o h => (h2 o h).trans (h1 o h)
theorem Fa_r (a : Sg) : Fa a a := fun _ _ => rfl
def GS (σ : Sg) (k : Nat) : Prop := ∃ d b, d ≤ 6 ∧ b < 4 ∧ σ 2 k = nI d ∧ σ 3 k = nI b ∧ pCan (rp σ k) d b ∧ (σ 5 k = nI 0 ∨ σ 5 k = nI 1) ∧ (σ 6 k = 0 ∨ σ 6 k = 1)
def GR (σ : Sg) (k : Nat) : Prop := ∃ r, r < 4 ∧ σ 7 k = nI r
def FB (σ : Sg) : Prop := (0 ≤ (σ 1 11).toInt ∧ (σ 1 11).toInt ≤ 20) ∧ 0 ≤ (σ 1 12).toInt ∧ (σ 1 12).toInt ≤ 20
def GO (σ : Sg) (S : Nat) : Prop := S ≤ 150 ∧ σ 1 9 = 1 ∧ σ 1 10 = nI S ∧ (∀ k, k < S → GS σ k) ∧ (∀ k, k ≤ S → GR σ k) ∧ vC 9 σ = rp σ S ∧ FB σ
theorem GO_P {σ : Sg} {S : Nat} (h : GO σ S) : GP σ S := by
  obtain ⟨-, -, -, h1, h2, -⟩ := h
  refine ⟨fun k hk => ?_, fun k hk => h2 k hk⟩
  obtain ⟨d, b, a1, a2, a3, a4, a5, -⟩ := h1 k hk
  exact ⟨d, b, a1, a2, a3, a4, a5⟩
theorem rp_cc {σ τ : Sg} (h : ∀ o, o ≤ 11 → τ o = σ o) (n : Nat) : rp τ n = rp σ n :=
  rp_c (by rw [h 1 (by omega)]) (by rw [h 1 (by omega)]) n (fun i _ => by rw [h 2 (by omega)]) (fun i _ => by rw [h 3 (by omega)]) (fun i _ => by rw [h 7 (by omega)])
theorem rp_a {σ τ : Sg} (h : Fa σ τ) (n : Nat) : rp τ n = rp σ n := rp_cc (fun o ho => h o (by omega)) n
theorem GO_c {σ τ : Sg} (h : ∀ o, o ≤ 11 → τ o = σ o) {S : Nat} (H : GO σ S) : GO τ S := by
  unfold GO GS GR FB at *
  rw [h 1 (by omega), h 2 (by omega), h 3 (by omega), h 5 (by omega), h 6 (by omega), h 7 (by omega), rp_cc h S, vC_c (o := 9) (h 9 (by omega)) (h 10 (by omega)) (h 11 (by omega))]
  simp only [rp_cc h]
  exact H
theorem GO_a {σ τ : Sg} (h : Fa σ τ) {S : Nat} (H : GO σ S) : GO τ S := GO_c (fun o ho => h o (by omega)) H
theorem z_01 : (0 : Int32).toInt = 0 ∧ (1 : Int32).toInt = 1 := by decide
def rq (σ : Sg) : Nat → Ps
  | 0 => pB (σ 1 11) (σ 1 12)
  | n + 1 => pLead (rp σ n) (σ 2 n).toNatClampNeg (σ 3 n)
theorem rq_p (σ : Sg) (k : Nat) : rp σ k = pObey (rq σ k) (σ 7 k).toNatClampNeg := by
  cases k <;> rfl
theorem z_behind {S k : Nat} (hS : S ≤ 150) (hk : k < S) : nI S - 1 - nI k = nI (S - 1 - k) := by
  have l1 := z_01.2
  have eS : (nI S - 1).toInt = (S : Int) - 1 := by rw [z_sub (by rw [z_nI (by omega), l1]; omega), z_nI (by omega), l1]
  rw [z_eq, z_sub (by rw [eS, z_nI (by omega)]; omega), eS, z_nI (by omega), z_nI (by omega)]
  omega
theorem pEnd_7 (p : Ps) : pEnd p 7 = -4 := by
  unfold pEnd
  by_cases a : p 7 = -4
  · rw [if_pos a]; exact a
  · rw [if_neg a]; rfl
