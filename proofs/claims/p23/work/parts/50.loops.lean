/-! THE LAW's LOOPS -/
/-- all that was told stands -/
def LK (σ : Sg) (S : Nat) : Prop := GO σ S ∧ ∀ k, k ≤ S → q_lg σ 26 k = Tq (rp σ k) 12
def LJ (σ : Sg) (S : Nat) : Prop := GO σ S ∧ ∀ k, k < S → q_lg σ 26 k = Tq (rp σ k) 12
theorem LJ_of {σ : Sg} {S : Nat} (h : LK σ S) : LJ σ S := ⟨h.1, fun k hk => h.2 k (by omega)⟩
theorem LK_a {σ τ : Sg} (h : Fa σ τ) {S : Nat} (H : LK σ S) : LK τ S := ⟨GO_a h H.1, fun k hk => by rw [q_lg_o (h 26 (by decide)), rp_a h]; exact H.2 k hk⟩
theorem LJ_a {σ τ : Sg} (h : Fa σ τ) {S : Nat} (H : LJ σ S) : LJ τ S := ⟨GO_a h H.1, fun k hk => by rw [q_lg_o (h 26 (by decide)), rp_a h]; exact H.2 k hk⟩
/-- a number is told and kept -/
theorem l_keep {σ : Sg} {S : Nat} (H : LJ σ S) : ∃ σ1, f_L_told σ (nI S) = some (σ1, 0) ∧ LK (q_wrl σ1 26 S (q_lg σ1 200 0)) S := by
  obtain ⟨σ1, a1, a2, a3⟩ := k_tell H.1 (Nat.le_refl S)
  have hw : ∀ o, o ≤ 11 → q_wrl σ1 26 S (q_lg σ1 200 0) o = σ1 o := fun o ho => q_wrl_ne (by omega)
  have R : ∀ n, rp (q_wrl σ1 26 S (q_lg σ1 200 0)) n = rp σ n := fun n => (rp_cc hw n).trans (rp_a a2 n)
  refine ⟨σ1, a1, GO_c hw (GO_a a2 H.1), fun k hk => ?_⟩
  rw [R]
  by_cases e : k = S
  · rw [e, q_lg_wrl, a3]
  · rw [q_lg_wrl_ne _ _ _ _ _ e, q_lg_o (a2 26 (by decide))]
    exact H.2 k (by omega)
theorem l_443 (N : Nat) (rec : Sg → Int32 → Int32 → Rs) (x5 : Int32) {S : Nat} (hS : S ≤ 60) : ∀ (d k q : Nat) (σ : Sg), k + d = S + 1 → d < q → LK σ S → ∃ τ, f_L_law_L443 N rec q σ (nI S) x5 (nI k) = rec τ (nI S) (x5 + 1) ∧ LK τ S := by
  intro d
  induction d with
  | zero =>
    intro k q σ hk hq H
    obtain ⟨q, rfl⟩ : ∃ p, q = p + 1 := ⟨q - 1, by omega⟩
    refine ⟨σ, ?_, H⟩
    show s_L_law_L443 N rec (f_L_law_L443 N rec q) σ (nI S) x5 (nI k) = _
    unfold s_L_law_L443
    rw [if_pos (nI_lt (by omega) (by omega)), l_eq]
  | succ d ih =>
    intro k q σ hk hq H
    obtain ⟨q, rfl⟩ : ∃ p, q = p + 1 := ⟨q - 1, by omega⟩
    obtain ⟨σ1, a1, a2, a3⟩ := k_tell H.1 (show k ≤ S by omega)
    obtain ⟨τ, b1, b2⟩ := ih (k + 1) q σ1 (by omega) (by omega) (LK_a a2 H)
    refine ⟨τ, ?_, b2⟩
    show s_L_law_L443 N rec (f_L_law_L443 N rec q) σ (nI S) x5 (nI k) = _
    unfold s_L_law_L443
    rw [if_neg (nI_nlt (by omega) (by omega)), a1, b_some, if_neg (o_in (k := k) (n := 64) (by omega) (by decide)), z_cl (n := k) (by omega), a3, q_lg_o (a2 26 (by decide)), H.2 k (by omega), if_pos (cmp_same _), l_eq, nI_1]
    exact b1
theorem l_428 (N : Nat) (rec : Sg → Int32 → Int32 → Rs) (x5 : Int32) {S : Nat} (hS : S ≤ 60) {σ : Sg} (H : LK σ S) : ∃ τ, f_L_law_J428 N rec σ (nI S) x5 = rec τ (nI S) (x5 + 1) ∧ LK τ S := by
  have c := k_count H.1 (j := 0) (by decide)
  rw [cn_0] at c
  obtain ⟨τ, b1, b2⟩ := l_443 N rec x5 hS (S + 1) 0 1000 σ (by omega) (by omega) H
  refine ⟨τ, ?_, b2⟩
  unfold f_L_law_J428
  rw [show f_X5_count σ 0 = some (σ, nI S) from c, b_some, if_pos rfl]
  exact b1
theorem l_418 (N : Nat) (rec : Sg → Int32 → Int32 → Rs) (x5 : Int32) {S : Nat} (hS : S ≤ 60) {σ : Sg} (H : LJ σ S) : ∃ τ, f_L_law_J418 N rec σ (nI S) x5 = rec τ (nI S) (x5 + 1) ∧ LK τ S := by
  obtain ⟨σ1, a1, a2⟩ := l_keep H
  obtain ⟨τ, b1, b2⟩ := l_428 N rec x5 hS a2
  refine ⟨τ, ?_, b2⟩
  unfold f_L_law_J418
  rw [a1, b_some, if_neg (o_in (k := S) (n := 64) (by omega) (by decide)), ls_eq, z_cl (n := S) (by omega)]
  exact b1
theorem l_303 (N : Nat) (rec : Sg → Int32 → Int32 → Rs) (x5 : Int32) {S k : Nat} (hS : S ≤ 60) (hk : k < S) {σ : Sg} (H : LK σ S) (y : Int32) (hy : σ 6 k = 1 → ¬ y = 0) : ∃ τ S', S' ≤ S ∧ f_L_law_J303 N rec σ (nI S) x5 (nI k) y = rec τ (nI S') (x5 + 1) ∧ LK τ S' := by
  have G := H.1
  unfold f_L_law_J303
  rw [k_told0 G hk, b_some]
  rcases k_found G hk with h | ⟨w, σ1, h, F, G1, R, e7, e8⟩ | ⟨w, σ1, h, F, G1, R, e7, e6, e2⟩
  · obtain ⟨τ, b1, b2⟩ := l_418 N rec x5 hS (LJ_of H)
    refine ⟨τ, S, Nat.le_refl _, ?_, b2⟩
    rw [h, b_some, if_pos rfl]
    unfold f_L_law_J334 f_L_law_J376
    rw [if_neg (show ¬ (-2 : Int32) = -1 by decide), if_neg (show ¬ (-2 : Int32) = 1 by decide), if_neg (show ¬ (-2 : Int32) = 2 by decide)]
    exact b1
  · have J : LJ σ1 k := ⟨G1, fun n hn => by rw [q_lg_o (F 26 (by decide)), R n hn]; exact H.2 n (by omega)⟩
    obtain ⟨σ2, c1, c2⟩ := k_state G1 (Nat.le_refl k) (q := 1) (by decide)
    obtain ⟨σ3, d1, d2⟩ := k_state (GO_a c2 G1) (Nat.le_refl k) (q := 2) (by decide)
    have t1 : pTell (rp σ1 k) 1 = -4 := e7
    have t2 : pTell (rp σ2 k) 2 = 0 := by rw [rp_a c2]; exact e8
    rw [t1] at c1
    rw [t2] at d1
    obtain ⟨τ, b1, b2⟩ := l_418 N rec x5 (show k ≤ 60 by omega) (LJ_a d2 (LJ_a c2 J))
    refine ⟨τ, k, by omega, ?_, b2⟩
    rw [h, b_some, if_neg (show ¬ (1 : Int32) = -2 by decide), if_neg (hy w)]
    unfold f_L_law_J334 f_L_law_J376
    rw [if_neg (show ¬ (1 : Int32) = -1 by decide), if_pos rfl, show f_X5_state σ1 (nI k) 1 = some (σ2, -4) from c1, b_some, if_pos rfl, show f_X5_state σ2 (nI k) 2 = some (σ3, 0) from d1, b_some, if_pos rfl, if_neg (show ¬ (1 : Int32) = 2 by decide)]
    exact b1
  · have J : LJ σ1 S := ⟨G1, fun n hn => by rw [q_lg_o (F 26 (by decide)), R n hn]; exact H.2 n (by omega)⟩
    obtain ⟨σ2, c1, c2⟩ := k_state G1 (Nat.le_refl S) (q := 1) (by decide)
    have t1 : pTell (rp σ1 S) 1 = -4 := e7
    rw [t1] at c1
    obtain ⟨τ, b1, b2⟩ := l_418 N rec x5 hS (LJ_a c2 J)
    refine ⟨τ, S, Nat.le_refl _, ?_, b2⟩
    rw [h, b_some, if_neg (show ¬ (2 : Int32) = -2 by decide), if_neg (hy w)]
    unfold f_L_law_J334 f_L_law_J376
    rw [if_neg (show ¬ (2 : Int32) = -1 by decide), if_neg (show ¬ (2 : Int32) = 1 by decide), if_pos rfl, k_told3 G1 hk, b_some, e6, if_pos rfl, k_told0 G1 hk, b_some, e2, if_pos rfl, show f_X5_state σ1 (nI S) 1 = some (σ2, -4) from c1, b_some, if_pos rfl]
    exact b1
theorem l_258 (N : Nat) (rec : Sg → Int32 → Int32 → Rs) (x5 x6 : Int32) {S : Nat} (hS : S ≤ 60) {σ : Sg} (H : LK σ S) : ∃ τ S', S' ≤ S ∧ f_L_law_J258 N rec σ (nI S) x5 x6 = rec τ (nI S') (x5 + 1) ∧ LK τ S' := by
  obtain ⟨τ, b1, b2⟩ := l_428 N rec x5 hS H
  obtain ⟨k1, h1, e1⟩ := l_some σ (x6 >>> ((6 : Int32) &&& 31)) (n := 4) (by decide) (by decide)
  unfold f_L_law_J258
  rw [show f_L_some σ (x6 >>> ((6 : Int32) &&& 31)) 4 = some (σ, nI k1) from e1, b_some]
  by_cases c : nI k1 = 0
  · rw [if_pos c]
    by_cases s0 : nI S ≤ 0
    · rw [if_pos s0]
      exact ⟨τ, S, Nat.le_refl _, b1, b2⟩
    · rw [if_neg s0]
      have hS0 : 0 < S := by
        rcases Nat.eq_zero_or_pos S with e | e
        · exfalso
          apply s0
          rw [e]
          decide
        · exact e
      obtain ⟨k, hk, e2⟩ := l_some σ (x6 >>> ((8 : Int32) &&& 31)) (n := S) hS0 (by omega)
      rw [e2, b_some, k_told3 H.1 hk, b_some]
      by_cases w : σ 6 k = 1
      · rw [if_pos w]
        exact l_303 N rec x5 hS hk H 1 (fun _ => by decide)
      · rw [if_neg w]
        exact l_303 N rec x5 hS hk H 0 (fun z => absurd z w)
  · rw [if_neg c]
    exact ⟨τ, S, Nat.le_refl _, b1, b2⟩
theorem l_187 (N : Nat) (rec : Sg → Int32 → Int32 → Rs) (x5 x6 : Int32) {S kd : Nat} (hS : S ≤ 55) (hkd : kd ≤ 6) {σ : Sg} (H : LK σ S) : ∃ τ S', S' ≤ S + 1 ∧ f_L_law_J187 N rec σ (nI S) x5 x6 (nI kd) = rec τ (nI S') (x5 + 1) ∧ LK τ S' := by
  obtain ⟨b, hb, e1⟩ := l_some σ (x6 >>> ((3 : Int32) &&& 31)) (n := 4) (by decide) (by decide)
  unfold f_L_law_J187
  rw [show f_L_some σ (x6 >>> ((3 : Int32) &&& 31)) 4 = some (σ, nI b) from e1, b_some]
  rcases k_stroke H.1 (show S < 150 by omega) hkd hb with h | ⟨σ1, h, F, G1, R⟩
  · obtain ⟨τ, S', s1, s2, s3⟩ := l_258 N rec x5 x6 (show S ≤ 60 by omega) H
    refine ⟨τ, S', by omega, ?_, s3⟩
    rw [h, b_some, if_pos (by decide)]
    exact s2
  · have J : LJ σ1 (S + 1) := ⟨G1, fun n hn => by rw [q_lg_o (F 26 (by decide)), R n (by omega)]; exact H.2 n (by omega)⟩
    have c := k_count G1 (j := 0) (by decide)
    rw [cn_0] at c
    obtain ⟨σ2, a1, a2⟩ := l_keep J
    obtain ⟨τ, S', s1, s2, s3⟩ := l_258 N rec x5 x6 (show S + 1 ≤ 60 by omega) a2
    refine ⟨τ, S', s1, ?_, s3⟩
    have o64 : ¬ q_oob (nI (S + 1)) 64 := o_in (k := S + 1) (n := 64) (by omega) (by decide)
    have pos := T_pos (B_rp a2.1 (S + 1) (Nat.le_refl _))
    rw [h, b_some, if_neg (nI_pos (by omega)), if_pos rfl, show f_X5_count σ1 0 = some (σ1, nI (S + 1)) from c, b_some, nI_1, if_pos rfl, l_eq, a1, b_some, if_neg o64, ls_eq, if_neg o64, z_cl (n := S + 1) (by omega), a2.2 (S + 1) (Nat.le_refl _), if_pos (cmp_pos pos)]
    exact s2
theorem pT_h (p : Ps) {j : Nat} (hj : j < 4) : pTell p (5 + j) = p j := by
  match j, hj with
  | 0, _ => rfl
  | 1, _ => rfl
  | 2, _ => rfl
  | 3, _ => rfl
  | n + 4, h => exact absurd h (by omega)
theorem l_506 (N : Nat) (rec : Sg → Int32 → Int32 → Int32 → Rs) (x5 : Int32) {S k : Nat} (hS : S ≤ 60) (hk : k < S) : ∀ (d j q : Nat) (σ : Sg), j + d = 4 → d < q → GO σ S → ∃ τ, f_L_law_L506 N rec q σ (nI S) x5 (nI k) (nI j) = rec τ (nI S) x5 (nI (k + 1)) ∧ Fa σ τ := by
  intro d
  induction d with
  | zero =>
    intro j q σ hj hq G
    obtain ⟨q, rfl⟩ : ∃ p, q = p + 1 := ⟨q - 1, by omega⟩
    have : j = 4 := by omega
    subst this
    refine ⟨σ, ?_, Fa_r _⟩
    show s_L_law_L506 N rec (f_L_law_L506 N rec q) σ (nI S) x5 (nI k) (nI 4) = _
    unfold s_L_law_L506
    rw [if_pos (by decide), l_eq, nI_1]
  | succ d ih =>
    intro j q σ hj hq G
    obtain ⟨q, rfl⟩ : ∃ p, q = p + 1 := ⟨q - 1, by omega⟩
    obtain ⟨σ1, a1, a2⟩ := k_state G (show k ≤ S by omega) (q := 5 + j) (by omega)
    obtain ⟨σ2, b1, b2⟩ := k_state (GO_a a2 G) (show k + 1 ≤ S by omega) (q := 5 + j) (by omega)
    obtain ⟨τ, c1, c2⟩ := ih (j + 1) q σ2 (by omega) (by omega) (GO_a b2 (GO_a a2 G))
    refine ⟨τ, ?_, Fa_t a2 (Fa_t b2 c2)⟩
    have e5 : (5 : Int32) + nI j = nI (5 + j) := nI_add 5 j
    rw [pT_h _ (show j < 4 by omega)] at a1
    rw [pT_h _ (show j < 4 by omega), rp_a a2] at b1
    show s_L_law_L506 N rec (f_L_law_L506 N rec q) σ (nI S) x5 (nI k) (nI j) = _
    unfold s_L_law_L506
    rw [if_neg (show ¬ (4 : Int32) ≤ nI j from nI_ge (b := 4) (by omega) (by decide)), e5, a1, b_some, nI_1, b1, b_some, l_eq, nI_1, c1]
    by_cases x : rp σ (k + 1) j = rp σ k j
    · rw [if_pos x]
    · rw [if_neg x, if_pos ((H_rp G hk (show j < 4 by omega)).resolve_left x)]
theorem cn_c {σ τ : Sg} (h : τ 6 = σ 6) (j : Nat) : ∀ k, cn τ j k = cn σ j k := by
  intro k
  induction k with
  | zero => rfl
  | succ k ih =>
    show cn τ j k + (if j = 0 then 1 else τ 6 k) = cn σ j k + (if j = 0 then 1 else σ 6 k)
    rw [ih, h]
theorem l_484 (N : Nat) {S : Nat} (hS : S ≤ 60) : ∀ (d k q : Nat) (σ : Sg), k + d = S → d < q → GO σ S → ∃ τ, f_L_law_L484 N q σ (nI S) (cn σ 1 k) (nI k) = some (τ, 1) := by
  intro d
  induction d with
  | zero =>
    intro k q σ hk hq G
    obtain ⟨q, rfl⟩ : ∃ p, q = p + 1 := ⟨q - 1, by omega⟩
    have : k = S := by omega
    subst this
    refine ⟨σ, ?_⟩
    show s_L_law_L484 N (f_L_law_L484 N q) σ (nI k) (cn σ 1 k) (nI k) = _
    unfold s_L_law_L484
    rw [if_pos (nI_le (Nat.le_refl _) (by omega)), show f_X5_count σ 1 = some (σ, cn σ 1 k) from k_count G (j := 1) (by decide), b_some, if_pos rfl]
  | succ d ih =>
    intro k q σ hk hq G
    obtain ⟨q, rfl⟩ : ∃ p, q = p + 1 := ⟨q - 1, by omega⟩
    obtain ⟨σ1, a1, a2⟩ := l_506 N (f_L_law_L484 N q) (cn σ 1 (k + 1)) hS (show k < S by omega) 4 0 1000 σ (by omega) (by omega) G
    obtain ⟨τ, b1⟩ := ih (k + 1) q σ1 (by omega) (by omega) (GO_a a2 G)
    rw [cn_c (a2 6 (by decide))] at b1
    refine ⟨τ, ?_⟩
    show s_L_law_L484 N (f_L_law_L484 N q) σ (nI S) (cn σ 1 k) (nI k) = _
    unfold s_L_law_L484
    have e : cn σ 1 k + σ 6 k = cn σ 1 (k + 1) := by
      show _ = cn σ 1 k + (if (1 : Nat) = 0 then 1 else σ 6 k)
      rw [if_neg (by decide)]
    rw [if_neg (nI_ge (by omega) (by omega)), k_told3 G (show k < S by omega), b_some, l_eq, e]
    exact a1.trans b1
theorem l_122 (N : Nat) (hN : N ≤ 260) : ∀ (d t q : Nat) (σ : Sg) (S : Nat), t + d = 55 → d < q → S ≤ t → LK σ S → ∃ τ, f_L_law_L122 N q σ (nI S) (nI t) = some (τ, 1) := by
  intro d
  induction d with
  | zero =>
    intro t q σ S ht hq hS H
    obtain ⟨q, rfl⟩ : ∃ p, q = p + 1 := ⟨q - 1, by omega⟩
    have : t = 55 := by omega
    subst this
    obtain ⟨τ, b⟩ := l_484 N (show S ≤ 60 by omega) S 0 1000 σ (by omega) (by omega) H.1
    refine ⟨τ, ?_⟩
    show s_L_law_L122 N (f_L_law_L122 N q) σ (nI S) (nI 55) = _
    unfold s_L_law_L122
    rw [if_pos (by decide)]
    exact b
  | succ d ih =>
    intro t q σ S ht hq hS H
    obtain ⟨q, rfl⟩ : ∃ p, q = p + 1 := ⟨q - 1, by omega⟩
    obtain ⟨v, ev⟩ := l_cell hN σ (i := t) (by omega)
    obtain ⟨kd, hkd, ek⟩ := l_some σ v (n := 7) (by decide) (by decide)
    obtain ⟨σ1, a1, a2⟩ := k_state H.1 (Nat.le_refl S) (q := 1) (by decide)
    obtain ⟨σ2, b1, b2⟩ := k_state (GO_a a2 H.1) (Nat.le_refl S) (q := 4) (by decide)
    have H2 : LK σ2 S := LK_a b2 (LK_a a2 H)
    have go : ∀ k, k ≤ 6 → ∃ τ, f_L_law_J187 N (f_L_law_L122 N q) σ2 (nI S) (nI t) v (nI k) = some (τ, 1) := fun k hk => by
      obtain ⟨τ, S', s1, s2, s3⟩ := l_187 N (f_L_law_L122 N q) (nI t) v (show S ≤ 55 by omega) hk H2
      obtain ⟨τ', e⟩ := ih (t + 1) q τ S' (by omega) (by omega) (by omega) s3
      exact ⟨τ', by rw [s2, nI_1]; exact e⟩
    show ∃ τ, s_L_law_L122 N (f_L_law_L122 N q) σ (nI S) (nI t) = some (τ, 1)
    unfold s_L_law_L122
    rw [if_neg (show ¬ (55 : Int32) ≤ nI t from nI_ge (b := 55) (by omega) (by decide)), ev, b_some, show f_L_some σ v 7 = some (σ, nI kd) from ek, b_some, show f_X5_state σ (nI S) 1 = some (σ1, pTell (rp σ S) 1) from a1, b_some, show f_X5_state σ1 (nI S) 4 = some (σ2, pTell (rp σ1 S) 4) from b1, b_some]
    unfold f_L_law_J185
    by_cases c1 : pTell (rp σ1 S) 4 < 0
    · rw [if_pos c1]
      by_cases c2 : 0 ≤ pTell (rp σ S) 1
      · rw [if_pos c2]
        exact go kd (by omega)
      · rw [if_neg c2]
        by_cases c3 : nI kd = 6
        · rw [if_pos c3]
          exact go kd (by omega)
        · rw [if_neg c3]
          exact go 0 (by decide)
    · rw [if_neg c1]
      exact go 4 (by decide)
