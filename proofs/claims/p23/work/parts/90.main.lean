/-! THE LAW ANSWERS 1 -/
/-- the state at the law's entry: the script -/
def q_s0 (xs : Nat → Int32) : Sg := fun o i => if o = 105 then xs i else 0
theorem l_62 {N : Nat} (hN : N ≤ 260) {σ : Sg} {p r : Nat} (hp : p < 20) (hr : r < 20) (a b : Bool) {lw : Lw} (h : RLc σ (zT p r a b) 0 lw) (h3 : σ 22 3 = 1000) (h6 : σ 22 6 = 1000) (v : Int32) : ∃ τ, f_L_law_J62 N σ v (nI p) (z_let a) (nI r) (z_let b) = some (τ, 1) := by
  obtain ⟨σ1, a1, a2⟩ := l_laws hp hr a b h
  obtain ⟨k, hk, ek⟩ := l_some σ1 (v >>> ((10 : Int32) &&& 31)) (n := 2001) (by decide) (by decide)
  have ei := l_index σ1 hk
  rw [a2 22 (by decide), h3] at ei
  have x3 : q_wr σ1 22 3 (nI k) 22 3 = nI k := by rw [w_at, if_pos ⟨rfl, rfl⟩]
  have x6 : q_wr σ1 22 3 (nI k) 22 6 = 1000 := by rw [w_at, if_neg (by decide), a2 22 (by decide), h6]
  obtain ⟨σ2, g, g1, g2, g3, g4⟩ := l_game (σ := q_wr σ1 22 3 (nI k)) (by rw [x3, z_nI (by omega)]; omega) (by rw [x6]; decide)
  have F : ∀ o, o ≤ 11 → q_clr σ2 26 o = σ2 o := fun o ho => by
    funext i
    rw [c_at, if_neg (by omega)]
  have G : GO (q_clr σ2 26) 0 := GO_c F g4
  obtain ⟨σ3, b1, b2⟩ := l_keep (σ := q_clr σ2 26) (S := 0) ⟨G, fun k hk => absurd hk (by omega)⟩
  obtain ⟨τ, e⟩ := l_122 N hN 55 0 1000 _ 0 (by omega) (by decide) (Nat.le_refl _) b2
  refine ⟨τ, ?_⟩
  unfold f_L_law_J62
  rw [a1, b_some, if_neg (by decide), show f_L_some σ1 (v >>> ((10 : Int32) &&& 31)) 2001 = some (σ1, nI k) from ek, b_some, ei, b_some, if_pos rfl, g1, b_some, if_pos g2, ls_eq, show f_L_told (q_clr σ2 26) 0 = some (σ3, 0) from b1, b_some, if_neg (show ¬ q_oob (0 : Int32) 64 by decide), ls_eq]
  exact e
theorem q_main (xs : Nat → Int32) {L : Nat} (hL : L ≤ 260) : ∃ σ', f_L_law L (q_s0 xs) = some (σ', 1) := by
  have hz : ∀ o, o < 100 → ∀ i, q_s0 xs o i = 0 := by
    intro o ho i
    unfold q_s0
    rw [if_neg (by omega)]
  obtain ⟨c, c1, c2, c17, c17', c18, c18', c22, c23, c24⟩ := i_class (s := q_s0 xs) hz
  have R : ∀ T : Nat → Int32, RLc c T 0 (fun k => if k = 0 then some (5, true) else if k = 1 then some (2, false) else none) := fun T => by
    refine ⟨?_, fun i h => absurd h (by omega), fun k hk => ?_⟩
    · rw [c2 15 (by decide) (by decide) (by decide) (by decide) (by decide) (by decide)]
      exact hz 15 (by decide) 1
    · match k, hk with
      | 0, _ => exact ⟨c17, c18⟩
      | 1, _ => exact ⟨c17', c18'⟩
      | n + 2, h => exact absurd h (by omega)
  obtain ⟨v, ev⟩ := l_cell hL c (i := 63) (by decide)
  obtain ⟨p, hp, ep⟩ := l_some c v (n := 20) (by decide) (by decide)
  obtain ⟨r, hr, er⟩ := l_some c (v >>> ((4 : Int32) &&& 31)) (n := 20) (by decide) (by decide)
  have go : ∀ a b : Bool, ∃ τ, f_L_law_J62 L c v (nI p) (z_let a) (nI r) (z_let b) = some (τ, 1) := fun a b => l_62 hL hp hr a b (R _) (c22 3 (by decide)) (c22 6 (by decide)) v
  have go2 : ∀ a : Bool, ∃ τ, f_L_law_J38 L c v (nI p) (z_let a) = some (τ, 1) := fun a => by
    unfold f_L_law_J38
    rw [show f_L_some c (v >>> ((4 : Int32) &&& 31)) 20 = some (c, nI r) from er, b_some]
    by_cases e : ((v >>> ((9 : Int32) &&& 31)) &&& (1 : Int32)) = 0
    · rw [if_pos e]
      exact go a true
    · rw [if_neg e]
      exact go a false
  unfold f_L_law
  rw [ls_eq, z_clr (hz 0 (by decide)), c1, b_some, show f_L_cell 105 L c 63 = some (c, v) from ev, b_some, show f_L_some c v 20 = some (c, nI p) from ep, b_some]
  by_cases e : ((v >>> ((8 : Int32) &&& 31)) &&& (1 : Int32)) = 0
  · rw [if_pos e]
    exact go2 true
  · rw [if_neg e]
    exact go2 false
