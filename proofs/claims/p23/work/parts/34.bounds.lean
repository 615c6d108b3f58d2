/-! how large a position's numbers are; hoops rise by one at most; the law's number is not below 0 -/
def BH (p : Ps) : Prop := (∀ i, i < 4 → 0 ≤ (p i).toInt ∧ (p i).toInt ≤ 7) ∧ ∀ i, i < 2 → 0 ≤ (p (4 + i)).toInt ∧ (p (4 + i)).toInt ≤ 20
def BD (p : Ps) : Prop := V p ∧ BH p ∧ (∃ n, n < 16 ∧ p 9 = nI n) ∧ (p 10 = -4 ∨ ∃ b, b < 4 ∧ p 10 = nI b)
theorem BH_c {p q : Ps} (h : ∀ i, i < 6 → q i = p i) (H : BH p) : BH q := ⟨fun i hi => by rw [h i (by omega)]; exact H.1 i hi, fun i hi => by rw [h (4 + i) (by omega)]; exact H.2 i hi⟩
theorem pStop_lo (p : Ps) (s : Int32) {i : Nat} (hi : i < 6) : pStop p s i = p i := by
  unfold pStop
  rw [u_ne _ _ (by omega), u_ne _ _ (by omega), u_ne _ _ (by omega), u_ne _ _ (by omega), u_ne _ _ (by omega), u_ne _ _ (by omega)]
theorem pEnd_lo (p : Ps) {i : Nat} (hi : i < 6) : pEnd p i = p i := by
  unfold pEnd
  by_cases a : p 7 = -4
  · rw [if_pos a]
  · rw [if_neg a, u_ne _ _ (by omega), pStop_lo p _ hi]
theorem pObey_lo (p : Ps) {r i : Nat} (hr : r < 4) (hi : i < 6) : pObey p r i = p i := by
  match r, hr with
  | 0, _ => rfl
  | 1, _ => exact pEnd_lo p hi
  | 2, _ => exact pStop_lo p _ hi
  | 3, _ => exact pStop_lo p _ hi
  | n + 4, h => exact absurd h (by omega)
theorem pBring_lo (p : Ps) (b : Int32) {i : Nat} (hi : i < 6) : pBring p b i = p i := by
  unfold pBring
  rw [u_ne _ _ (by omega), u_ne _ _ (by omega), u_ne _ _ (by omega)]
theorem z_16 {x : Int32} (h : 0 ≤ x ∧ x ≤ 15) : ∃ n, n < 16 ∧ x = nI n := by
  obtain ⟨k, hk, e⟩ := nI_of2 (x := x) (M := 15) (n := 15) (by decide) (by rw [z_lt]; have := (z_le _ _).1 h.1; omega) h.2
  exact ⟨k, by omega, e⟩
theorem pO_d : ∀ n, n < 16 → ∀ i, i < 4 → 0 ≤ (nI n ||| ((1 : Int32) <<< (nI i &&& 31))) ∧ (nI n ||| ((1 : Int32) <<< (nI i &&& 31))) ≤ 15 := by decide +kernel
theorem pO_r (p : Ps) (b : Int32) {l : Int32} {i : Nat} (hl : ∃ n, n < 16 ∧ l = nI n) (hi : i < 4) : ∃ n, n < 16 ∧ pO p b l i = nI n := by
  unfold pO
  by_cases h : nI i = b ∨ p i = 7
  · rw [if_pos h]; exact hl
  · rw [if_neg h]
    obtain ⟨n, hn, rfl⟩ := hl
    exact z_16 (pO_d n hn i hi)
theorem pOth_r (p : Ps) (b : Int32) : ∃ n, n < 16 ∧ pOth p b = nI n :=
  pO_r p b (pO_r p b (pO_r p b (pO_r p b ⟨0, by decide, rfl⟩ (by decide)) (by decide)) (by decide)) (by decide)
theorem pR_d : ∀ n, n < 16 → ∀ b, b < 4 → 0 ≤ (nI n &&& (((1 : Int32) <<< (nI b &&& 31)) ^^^ (-1))) ∧ (nI n &&& (((1 : Int32) <<< (nI b &&& 31)) ^^^ (-1))) ≤ 15 := by decide +kernel
theorem B_end {p : Ps} (hV : V (pEnd p)) (H : BH p) (h9 : ∃ n, n < 16 ∧ p 9 = nI n) (h10 : p 10 = -4 ∨ ∃ b, b < 4 ∧ p 10 = nI b) : BD (pEnd p) := by
  refine ⟨hV, BH_c (fun i hi => pEnd_lo p hi) H, ?_, ?_⟩
  · unfold pEnd
    by_cases a : p 7 = -4
    · rw [if_pos a]; exact h9
    · rw [if_neg a]; exact ⟨0, by decide, rfl⟩
  · unfold pEnd
    by_cases a : p 7 = -4
    · rw [if_pos a]; exact h10
    · rw [if_neg a]; exact Or.inl rfl
theorem B_obey {p : Ps} (h : BD p) {r : Nat} (hr : r < 4) : BD (pObey p r) := by
  have hV := V_obey h.1 hr
  match r, hr with
  | 0, _ => exact h
  | 1, _ => exact B_end hV h.2.1 h.2.2.1 h.2.2.2
  | 2, _ => exact ⟨hV, BH_c (fun i hi => pStop_lo p _ hi) h.2.1, ⟨0, by decide, rfl⟩, Or.inl rfl⟩
  | 3, _ => exact ⟨hV, BH_c (fun i hi => pStop_lo p _ hi) h.2.1, ⟨0, by decide, rfl⟩, Or.inl rfl⟩
  | n + 4, h => exact absurd h (by omega)
theorem B_bring {p : Ps} {b : Int32} (hV : V (pBring p b)) (H : BH p) (h10 : p 10 = -4 ∨ ∃ b, b < 4 ∧ p 10 = nI b) : BD (pBring p b) :=
  ⟨hV, BH_c (fun i hi => pBring_lo p b hi) H, pOth_r p b, h10⟩
theorem z_7 : (7 : Int32).toInt = 7 ∧ (6 : Int32).toInt = 6 ∧ (1 : Int32).toInt = 1 ∧ (0 : Int32).toInt = 0 := by decide
theorem B_lead {p : Ps} (h : BD p) {k b : Nat} (hk : k ≤ 6) (hb : b < 4) (hc : pCan p k b) : BD (pLead p k (nI b)) := by
  have hV := V_lead h.1 hk hb hc
  obtain ⟨⟨v7, v6, v11, v0, v1, v2⟩, H, h9, h10⟩ := h
  obtain ⟨l7, l6, l1, l0⟩ := z_7
  match k, hk, hc with
  | 0, _, hc => exact B_bring hV H h10
  | 1, _, hc => exact B_end hV H h9 h10
  | 2, _, hc =>
    obtain ⟨h7, _, h6⟩ := hc
    obtain ⟨c, c4, ec⟩ := v7.resolve_left h7
    have hV2 : V (pBring (upd p (p 7).toNatClampNeg (p (p 7).toNatClampNeg + 1)) (p 7)) := hV
    show BD (pBring (upd p (p 7).toNatClampNeg (p (p 7).toNatClampNeg + 1)) (p 7))
    rw [ec, z_cl (n := c) (by omega)] at hV2 h6 ⊢
    refine B_bring hV2 ⟨fun i hi => ?_, fun i hi => by rw [u_ne _ _ (by omega)]; exact H.2 i hi⟩ (by rw [u_ne _ _ (by omega)]; exact h10)
    by_cases e : i = c
    · have g := H.1 c c4
      rw [z_le, l6] at h6
      rw [e, show upd p c (p c + 1) c = p c + 1 by simp [upd], z_add (by rw [l1]; omega), l1]
      omega
    · rw [u_ne _ _ e]; exact H.1 i hi
  | 3, _, hc =>
    refine ⟨hV, BH_c (p := p) (fun i hi => ?_) H, ?_, Or.inr ⟨b, hb, rfl⟩⟩
    · show pRoq p (nI b) i = p i
      unfold pRoq
      rw [u_ne _ _ (by omega), u_ne _ _ (by omega), u_ne _ _ (by omega)]
    · obtain ⟨n, hn, en⟩ := h9
      show ∃ m, m < 16 ∧ p 9 &&& (((1 : Int32) <<< (nI b &&& 31)) ^^^ (-1)) = nI m
      rw [en]
      exact z_16 (pR_d n hn b hb)
  | 4, _, hc =>
    refine ⟨hV, BH_c (p := p) (fun i hi => ?_) H, h9, Or.inl rfl⟩
    show pCro p i = p i
    unfold pCro
    rw [u_ne _ _ (by omega), u_ne _ _ (by omega)]
  | 5, _, hc =>
    obtain ⟨h7, _, h6⟩ := hc
    obtain ⟨c, c4, ec⟩ := v7.resolve_left h7
    have hV2 : V (pEnd (upd p (p 7).toNatClampNeg 7)) := hV
    show BD (pEnd (upd p (p 7).toNatClampNeg 7))
    rw [ec, z_cl (n := c) (by omega)] at hV2 ⊢
    refine B_end hV2 ⟨fun i hi => ?_, fun i hi => by rw [u_ne _ _ (by omega)]; exact H.2 i hi⟩ (by rw [u_ne _ _ (by omega)]; exact h9) (by rw [u_ne _ _ (by omega)]; exact h10)
    by_cases e : i = c
    · rw [e, show upd p c 7 c = 7 by simp [upd], l7]
      omega
    · rw [u_ne _ _ e]; exact H.1 i hi
  | 6, _, hc =>
    obtain ⟨h7, h11, _, hf⟩ := hc
    obtain ⟨t, t2, et, et', ets⟩ := s_fl v6
    have ht : (1 - p 6).toNatClampNeg = t := by rw [et, z_cl (n := t) (by omega)]
    have hV2 : V (pBring (upd (upd p 6 (1 - p 6)) (4 + (1 - p 6).toNatClampNeg) (p (4 + (1 - p 6).toNatClampNeg) - 1)) (p 11)) := hV
    show BD (pBring (upd (upd p 6 (1 - p 6)) (4 + (1 - p 6).toNatClampNeg) (p (4 + (1 - p 6).toNatClampNeg) - 1)) (p 11))
    rw [ht] at hV2 hf ⊢
    refine B_bring hV2 ⟨fun i hi => by rw [u_ne _ _ (by omega), u_ne _ _ (by omega)]; exact H.1 i hi, fun i hi => ?_⟩ (by rw [u_ne _ _ (by omega), u_ne _ _ (by omega)]; exact h10)
    by_cases e : i = t
    · have g := H.2 t t2
      rw [z_le, l0] at hf
      subst e
      rw [show upd (upd p 6 (1 - p 6)) (4 + i) (p (4 + i) - 1) (4 + i) = p (4 + i) - 1 by simp [upd], z_sub (by rw [l1]; omega), l1]
      omega
    · rw [u_ne _ _ (by omega), u_ne _ _ (by omega)]; exact H.2 i hi
  | n + 7, h, _ => exact absurd h (by omega)
theorem B_B {f0 f1 : Int32} (h0 : 0 ≤ f0.toInt ∧ f0.toInt ≤ 20) (h1 : 0 ≤ f1.toInt ∧ f1.toInt ≤ 20) : BD (pB f0 f1) := by
  obtain ⟨l7, l6, l1, l0⟩ := z_7
  refine ⟨V_B f0 f1, ⟨fun i hi => ?_, fun i hi => ?_⟩, ⟨0, by decide, rfl⟩, Or.inl rfl⟩
  · rw [show pB f0 f1 i = 0 by unfold pB; rw [if_pos hi], l0]
    omega
  · match i, hi with
    | 0, _ => exact h0
    | 1, _ => exact h1
    | n + 2, h => exact absurd h (by omega)
theorem B_rp {σ : Sg} {S : Nat} (G : GO σ S) : ∀ k, k ≤ S → BD (rp σ k) := by
  intro k
  induction k with
  | zero =>
    intro _
    obtain ⟨r, r4, er⟩ := G.2.2.2.2.1 0 (by omega)
    show BD (pObey (pB (σ 1 11) (σ 1 12)) (σ 7 0).toNatClampNeg)
    rw [er, z_cl (n := r) (by omega)]
    exact B_obey (B_B G.2.2.2.2.2.2.1 G.2.2.2.2.2.2.2) r4
  | succ k ih =>
    intro hk
    obtain ⟨d, b, r, h1, h2, h3, _, _, _, h5, h6⟩ := rp_s (GO_P G) (k := k) (by omega)
    rw [h6]
    exact B_obey (B_lead (ih (by omega)) h1 h2 h5) h3
/-- hoops rise by one at most -/
theorem H_lead {p : Ps} (hV : V p) {k b : Nat} (hk : k ≤ 6) (hc : pCan p k b) {i : Nat} (hi : i < 4) : pLead p k (nI b) i = p i ∨ pLead p k (nI b) i = p i + 1 := by
  obtain ⟨v7, v6, v11, v0, v1, v2⟩ := hV
  match k, hk, hc with
  | 0, _, hc => exact Or.inl (pBring_lo p _ (by omega))
  | 1, _, hc => exact Or.inl (pEnd_lo p (by omega))
  | 2, _, hc =>
    obtain ⟨c, c4, ec⟩ := v7.resolve_left hc.1
    show pBring (upd p (p 7).toNatClampNeg (p (p 7).toNatClampNeg + 1)) (p 7) i = p i ∨ pBring (upd p (p 7).toNatClampNeg (p (p 7).toNatClampNeg + 1)) (p 7) i = p i + 1
    rw [pBring_lo _ _ (show i < 6 by omega), ec, z_cl (n := c) (by omega)]
    by_cases e : i = c
    · right
      subst e
      simp [upd]
    · left
      exact u_ne _ _ e
  | 3, _, hc =>
    left
    show pRoq p (nI b) i = p i
    unfold pRoq
    rw [u_ne _ _ (by omega), u_ne _ _ (by omega), u_ne _ _ (by omega)]
  | 4, _, hc =>
    left
    show pCro p i = p i
    unfold pCro
    rw [u_ne _ _ (by omega), u_ne _ _ (by omega)]
  | 5, _, hc =>
    obtain ⟨h7, _, h6⟩ := hc
    obtain ⟨c, c4, ec⟩ := v7.resolve_left h7
    show pEnd (upd p (p 7).toNatClampNeg 7) i = p i ∨ pEnd (upd p (p 7).toNatClampNeg 7) i = p i + 1
    rw [ec, z_cl (n := c) (by omega)] at h6 ⊢
    rw [pEnd_lo _ (show i < 6 by omega)]
    by_cases e : i = c
    · right
      subst e
      rw [h6]
      simp [upd]
    · left
      exact u_ne _ _ e
  | 6, _, hc =>
    left
    obtain ⟨t, t2, et, et', ets⟩ := s_fl v6
    show pBring (upd (upd p 6 (1 - p 6)) (4 + (1 - p 6).toNatClampNeg) (p (4 + (1 - p 6).toNatClampNeg) - 1)) (p 11) i = p i
    rw [pBring_lo _ _ (show i < 6 by omega), u_ne _ _ (by omega), u_ne _ _ (by omega)]
  | n + 7, h, _ => exact absurd h (by omega)
theorem H_rp {σ : Sg} {S k i : Nat} (G : GO σ S) (hk : k < S) (hi : i < 4) : rp σ (k + 1) i = rp σ k i ∨ rp σ (k + 1) i = rp σ k i + 1 := by
  obtain ⟨d, b, r, h1, h2, h3, _, _, _, h5, h6⟩ := rp_s (GO_P G) (k := k) hk
  rw [h6, pObey_lo _ h3 (by omega)]
  exact H_lead (rp_V (GO_P G) k (by omega)) h1 h5 hi
/-- what a position tells lies within -4 .. 35, the side within 0 .. 1 -/
theorem z_nb {x : Int32} (h : x = -4 ∨ ∃ b, b < 4 ∧ x = nI b) : -4 ≤ x.toInt ∧ x.toInt ≤ 35 := by
  rcases h with h | ⟨b, hb, h⟩
  · rw [h]; decide
  · rw [h, z_nI (by omega)]; omega
theorem W_01 (p : Ps) : -4 ≤ (pWin p).toInt ∧ (pWin p).toInt ≤ 35 := by
  unfold pWin
  by_cases a : p 0 = 7 ∧ p 2 = 7
  · rw [if_pos a]; decide
  · rw [if_neg a]
    by_cases b : p 1 = 7 ∧ p 3 = 7
    · rw [if_pos b]; decide
    · rw [if_neg b]; decide
theorem T_rng {p : Ps} (h : BD p) {q : Nat} (hq : q < 12) : -4 ≤ (pTell p q).toInt ∧ (pTell p q).toInt ≤ 35 := by
  obtain ⟨⟨v7, v6, v11, v0, v1, v2⟩, H, h9, h10⟩ := h
  have lo : ∀ i, i < 4 → -4 ≤ (p i).toInt ∧ (p i).toInt ≤ 35 := fun i hi => by have := H.1 i hi; omega
  have fr : ∀ i, i < 2 → -4 ≤ (p (4 + i)).toInt ∧ (p (4 + i)).toInt ≤ 35 := fun i hi => by have := H.2 i hi; omega
  match q, hq with
  | 0, _ =>
    show -4 ≤ (p 6).toInt ∧ (p 6).toInt ≤ 35
    rcases v6 with e | e <;> rw [e] <;> decide
  | 1, _ => exact z_nb v7
  | 2, _ =>
    show -4 ≤ (p 8).toInt ∧ (p 8).toInt ≤ 35
    by_cases a : p 7 = -4
    · rw [(v0 a).1]; decide
    · by_cases b : p 10 = -4
      · rw [v1 a b]; decide
      · rw [v2 a b]; decide
  | 3, _ =>
    obtain ⟨n, hn, en⟩ := h9
    show -4 ≤ (p 9).toInt ∧ (p 9).toInt ≤ 35
    rw [en, z_nI (by omega)]
    omega
  | 4, _ => exact z_nb h10
  | 5, _ => exact lo 0 (by decide)
  | 6, _ => exact lo 1 (by decide)
  | 7, _ => exact lo 2 (by decide)
  | 8, _ => exact lo 3 (by decide)
  | 9, _ => exact fr 0 (by decide)
  | 10, _ => exact fr 1 (by decide)
  | 11, _ => exact W_01 p
  | n + 12, h => exact absurd h (by omega)
theorem y_bmod {x : Int} (h : -9223372036854775808 ≤ x ∧ x < 9223372036854775808) : x.bmod (2 ^ 64) = x := by
  rw [Int.bmod_def]
  have : ((2 ^ 64 : Nat) : Int) = 18446744073709551616 := by decide
  rw [this]
  omega
theorem y_lits : (41 : Int64).toInt = 41 ∧ (5 : Int64).toInt = 5 ∧ (0 : Int64).toInt = 0 := by decide
theorem y_step {x : Int64} {v : Int32} {B : Int} (h0 : 0 ≤ x.toInt ∧ x.toInt ≤ B) (hB : B ≤ 200000000000000000) (hv : -4 ≤ v.toInt ∧ v.toInt ≤ 35) : 0 ≤ ((((41 : Int64) * x) + v.toInt64) + 5).toInt ∧ ((((41 : Int64) * x) + v.toInt64) + 5).toInt ≤ 41 * B + 40 := by
  obtain ⟨l1, l2, l3⟩ := y_lits
  have e1 : ((41 : Int64) * x).toInt = 41 * x.toInt := by rw [Int64.toInt_mul, l1, y_bmod (by omega)]
  have e2 : (((41 : Int64) * x) + v.toInt64).toInt = 41 * x.toInt + v.toInt := by rw [Int64.toInt_add, e1, Int32.toInt_toInt64, y_bmod (by omega)]
  have e3 : ((((41 : Int64) * x) + v.toInt64) + 5).toInt = 41 * x.toInt + v.toInt + 5 := by rw [Int64.toInt_add, e2, l2, y_bmod (by omega)]
  rw [e3]
  omega
theorem y_first {p : Ps} (h : BD p) : 0 ≤ (Tq p 1).toInt ∧ (Tq p 1).toInt ≤ 6 := by
  show 0 ≤ ((((41 : Int64) * 0) + (p 6).toInt64) + 5).toInt ∧ ((((41 : Int64) * 0) + (p 6).toInt64) + 5).toInt ≤ 6
  rcases h.1.2.1 with e | e <;> rw [e] <;> decide
theorem T_pos {p : Ps} (h : BD p) : 0 ≤ (Tq p 12).toInt := by
  have s : ∀ q, q < 12 → ∀ B : Int, B ≤ 200000000000000000 → 0 ≤ (Tq p q).toInt ∧ (Tq p q).toInt ≤ B → 0 ≤ (Tq p (q + 1)).toInt ∧ (Tq p (q + 1)).toInt ≤ 41 * B + 40 := fun q hq B hB h0 => y_step h0 hB (T_rng h hq)
  have h1 := y_first h
  have h2 := s 1 (by decide) _ (by decide) h1
  have h3 := s 2 (by decide) _ (by decide) h2
  have h4 := s 3 (by decide) _ (by decide) h3
  have h5 := s 4 (by decide) _ (by decide) h4
  have h6 := s 5 (by decide) _ (by decide) h5
  have h7 := s 6 (by decide) _ (by decide) h6
  have h8 := s 7 (by decide) _ (by decide) h7
  have h9 := s 8 (by decide) _ (by decide) h8
  have h10 := s 9 (by decide) _ (by decide) h9
  have h11 := s 10 (by decide) _ (by decide) h10
  exact (s 11 (by decide) _ (by decide) h11).1
theorem cmp_pos {x : Int64} (h : 0 ≤ x.toInt) : 0 ≤ lg_cmp x 0 := by
  unfold lg_cmp
  by_cases a : (0 : Int64) < x
  · rw [if_pos a]; decide
  · rw [if_neg a]
    by_cases b : x = 0
    · rw [if_pos b]; decide
    · exfalso
      rw [Int64.lt_iff_toInt_lt, y_lits.2.2] at a
      apply b
      apply Int64.toInt_inj.mp
      rw [y_lits.2.2]
      omega
theorem cmp_same (x : Int64) : lg_cmp x x = 0 := by simp [lg_cmp]
