/-! what may be done, answered by the reference -/
theorem m_canJ {τ : Sg} {p : Ps} (hS : SM τ p) (hV : V p) {k b : Nat} (hk : k ≤ 6) (hb : b < 4) (y : Int32) (hy : y = 0 ∧ ¬ (¬ p 7 = -4 ∧ p 10 = -4) ∨ y = 1 ∧ ¬ p 7 = -4 ∧ p 10 = -4) : ∃ r, f_X6_canDo_J21 τ (nI k) (nI b) y = some (τ, r) ∧ (r = 0 ↔ ¬ pCan p k b) := by
  obtain ⟨v7, v6, v11, v0, v1, v2⟩ := hV
  obtain ⟨s37, s38, s15, s16, s17, s18, sA, sB⟩ := hS
  unfold f_X6_canDo_J21
  match k, hk with
  | 0, _ =>
    rw [if_neg (by decide), if_neg (by decide), if_pos (by decide), s15]
    by_cases a7 : p 7 = -4
    · rw [a7, if_neg (by decide), if_neg (o_in hb (by decide)), z_cl (n := b) (by omega), s37 b hb]
      by_cases g : p b = 7
      · rw [if_pos g]
        exact ⟨0, rfl, by simp [pCan, g]⟩
      · rw [if_neg g]
        exact ⟨1, rfl, by simp [pCan, g, a7]⟩
    · obtain ⟨c, c4, ec⟩ := v7.resolve_left a7
      rw [ec, if_pos (nI_pos' (n := c) (by omega))]
      exact ⟨0, rfl, by simp [pCan, a7]⟩
  | 1, _ =>
    rw [if_neg (by decide), if_neg (by decide), if_neg (by decide), if_pos (by decide)]
    rcases hy with ⟨rfl, h⟩ | ⟨rfl, h⟩
    · rw [if_pos (by decide)]
      exact ⟨0, rfl, iff_of_true rfl h⟩
    · rw [if_pos (by decide)]
      exact ⟨1, rfl, iff_of_false (by decide) (fun z => z h)⟩
  | 2, _ =>
    rw [if_neg (by decide), if_neg (by decide), if_neg (by decide), if_neg (by decide), if_pos (by decide)]
    rcases hy with ⟨rfl, h⟩ | ⟨rfl, h⟩
    · rw [if_pos rfl]
      exact ⟨0, rfl, iff_of_true rfl (fun z => h ⟨z.1, z.2.1⟩)⟩
    · obtain ⟨c, c4, ec⟩ := v7.resolve_left h.1
      rw [if_neg (by decide), s15, ec, if_neg (o_in c4 (by decide)), z_cl (n := c) (by omega), s37 c c4]
      by_cases g : 6 ≤ p c
      · rw [if_pos g]
        exact ⟨0, rfl, iff_of_true rfl (fun z => z.2.2 (by rw [ec, z_cl (n := c) (by omega)]; exact g))⟩
      · rw [if_neg g]
        exact ⟨1, rfl, iff_of_false (by decide) (fun z => z ⟨h.1, h.2, by rw [ec, z_cl (n := c) (by omega)]; exact g⟩)⟩
  | 3, _ =>
    rw [if_neg (by decide), if_neg (by decide), if_neg (by decide), if_neg (by decide), if_neg (by decide), if_pos (by decide)]
    rcases hy with ⟨rfl, h⟩ | ⟨rfl, h⟩
    · rw [if_pos rfl]
      exact ⟨0, rfl, iff_of_true rfl (fun z => h ⟨z.1, z.2.1⟩)⟩
    · rw [if_neg (by decide), s15]
      by_cases d : nI b = p 7
      · rw [if_pos d]
        exact ⟨0, rfl, iff_of_true rfl (fun z => z.2.2.1 d)⟩
      · rw [if_neg d, if_neg (o_in hb (by decide)), z_cl (n := b) (by omega), s37 b hb]
        by_cases g : p b = 7
        · rw [if_pos g]
          exact ⟨0, rfl, iff_of_true rfl (fun z => z.2.2.2 g)⟩
        · rw [if_neg g]
          exact ⟨1, rfl, iff_of_false (by decide) (fun z => z ⟨h.1, h.2, d, g⟩)⟩
  | 4, _ =>
    rw [if_neg (by decide), if_neg (by decide), if_neg (by decide), if_neg (by decide), if_neg (by decide), if_neg (by decide), if_pos (by decide), s15, s18]
    by_cases a7 : p 7 = -4
    · rw [a7, if_pos (by decide)]
      exact ⟨0, rfl, iff_of_true rfl (fun z => z.1 a7)⟩
    · obtain ⟨c, c4, ec⟩ := v7.resolve_left a7
      rw [ec, if_neg (nb_neg c4)]
      by_cases g : p 10 = -4
      · rw [if_pos g]
        exact ⟨0, rfl, iff_of_true rfl (fun z => z.2 g)⟩
      · rw [if_neg g]
        exact ⟨1, rfl, iff_of_false (by decide) (fun z => z ⟨a7, g⟩)⟩
  | 5, _ =>
    rw [if_neg (by decide), if_neg (by decide), if_neg (by decide), if_neg (by decide), if_neg (by decide), if_neg (by decide), if_neg (by decide), if_pos (by decide)]
    rcases hy with ⟨rfl, h⟩ | ⟨rfl, h⟩
    · rw [if_pos rfl]
      exact ⟨0, rfl, iff_of_true rfl (fun z => h ⟨z.1, z.2.1⟩)⟩
    · obtain ⟨c, c4, ec⟩ := v7.resolve_left h.1
      rw [if_neg (by decide), s15, ec, if_neg (o_in c4 (by decide)), z_cl (n := c) (by omega), s37 c c4]
      by_cases g : p c = 6
      · rw [if_pos g]
        exact ⟨1, rfl, iff_of_false (by decide) (fun z => z ⟨h.1, h.2, by rw [ec, z_cl (n := c) (by omega)]; exact g⟩)⟩
      · rw [if_neg g]
        exact ⟨0, rfl, iff_of_true rfl (fun z => g (by have := z.2.2; rw [ec, z_cl (n := c) (by omega)] at this; exact this))⟩
  | 6, _ =>
    rw [if_neg (by decide), if_pos (by decide)]
    unfold f_X6_canDo_J185
    rw [s15]
    by_cases a7 : p 7 = -4
    · rw [a7, if_neg (by decide)]
      obtain ⟨s14, sC⟩ := sA a7
      rcases sC with ⟨c1, c2⟩ | ⟨c1, c2, c3⟩
      · rw [if_pos c2]
        exact ⟨0, rfl, iff_of_true rfl (fun z => z.2.1 c1)⟩
      · obtain ⟨c, c4, ec⟩ := v11.resolve_left c1
        obtain ⟨t, t2, et, et', ets⟩ := s_fl v6
        rw [c2, c3, ec, et, if_neg (nb_neg c4), if_neg (o_in t2 (by decide)), z_cl (n := t) (by omega), s38 t t2]
        have e1 : (p 11).toNatClampNeg = c := by rw [ec, z_cl (n := c) (by omega)]
        have e2 : (1 - p 6).toNatClampNeg = t := by rw [et, z_cl (n := t) (by omega)]
        by_cases d : p (4 + t) ≤ 0
        · rw [if_pos d]
          exact ⟨0, rfl, iff_of_true rfl (fun z => z.2.2.2 (by rw [e2]; exact d))⟩
        · rw [if_neg d, if_neg (o_in c4 (by decide)), z_cl (n := c) (by omega), s37 c c4]
          by_cases g : p c = 7
          · rw [if_pos g]
            exact ⟨0, rfl, iff_of_true rfl (fun z => z.2.2.1 (by rw [e1]; exact g))⟩
          · rw [if_neg g]
            exact ⟨1, rfl, iff_of_false (by decide) (fun z => z ⟨a7, c1, by rw [e1]; exact g, by rw [e2]; exact d⟩)⟩
    · obtain ⟨c, c4, ec⟩ := v7.resolve_left a7
      rw [ec, if_pos (nI_pos' (n := c) (by omega))]
      exact ⟨0, rfl, iff_of_true rfl (fun z => a7 z.1)⟩
  | n + 7, h => exact absurd h (by omega)
theorem m_canDo {τ : Sg} {p : Ps} (hS : SM τ p) (hV : V p) {k b : Nat} (hk : k ≤ 6) (hb : b < 4) : ∃ r, f_X6_canDo τ (nI k) (nI b) = some (τ, r) ∧ (r = 0 ↔ ¬ pCan p k b) := by
  unfold f_X6_canDo f_X6_canDo_J20
  rw [hS.2.2.1, hS.2.2.2.2.2.1]
  by_cases a7 : p 7 = -4
  · rw [a7, if_pos (by decide)]
    exact m_canJ hS hV hk hb 0 (Or.inl ⟨rfl, fun z => z.1 a7⟩)
  · obtain ⟨c, c4, ec⟩ := hV.1.resolve_left a7
    rw [ec, if_neg (nb_neg c4)]
    by_cases g : p 10 = -4
    · rw [if_pos g]
      exact m_canJ hS hV hk hb 1 (Or.inr ⟨rfl, a7, g⟩)
    · rw [if_neg g]
      exact m_canJ hS hV hk hb 0 (Or.inl ⟨rfl, fun z => g z.2⟩)
/-! what is done -/
theorem m_tail0 {τ : Sg} {p : Ps} (hS : SM τ p) (h : ¬ (p 8 = 0 ∧ p 10 = -4)) : f_X6_make_J184 τ = some (τ, 0) := by
  unfold f_X6_make_J184
  rw [hS.2.2.2.1, hS.2.2.2.2.2.1]
  by_cases a : τ 26 15 < 0
  · rw [if_pos a]
  · rw [if_neg a]
    by_cases b : p 8 = 0
    · rw [if_pos b, if_neg (fun z => h ⟨b, z⟩)]
    · rw [if_neg b]
theorem m_tail1 {τ : Sg} {p : Ps} (h : ∀ i, i < 4 → τ 37 i = p i) (h8 : ∀ i, i < 2 → τ 38 i = p (4 + i)) (h15 : τ 26 15 = p 7) (v7 : p 7 = -4 ∨ ∃ b, b < 4 ∧ p 7 = nI b) (h7 : ¬ p 7 = -4) (h16 : τ 26 16 = 0) (h18 : τ 26 18 = -4) (h21 : τ 26 21 = p 6) (v6 : p 6 = nI 0 ∨ p 6 = nI 1) : ∃ τ', f_X6_make_J184 τ = some (τ', 0) ∧ SM τ' (pEnd p) ∧ Fm τ τ' := by
  unfold f_X6_make_J184
  obtain ⟨c, c4, ec⟩ := v7.resolve_left h7
  obtain ⟨τ', g1, g2, g3⟩ := m_end h h8 h15 h7 h21 v6
  rw [if_neg (by rw [h15, ec]; exact nb_neg c4), if_pos h16, if_pos h18, g1, b_some]
  exact ⟨τ', rfl, g2, g3⟩
theorem m_make {τ : Sg} {p : Ps} (hS : SM τ p) (hV : V p) {k b : Nat} (hk : k ≤ 6) (hb : b < 4) (hc : pCan p k b) : ∃ τ', f_X6_make τ (nI k) (nI b) = some (τ', 0) ∧ SM τ' (pLead p k (nI b)) ∧ Fm τ τ' := by
  have hS' := hS
  obtain ⟨v7, v6, v11, v0, v1, v2⟩ := hV
  obtain ⟨s37, s38, s15, s16, s17, s18, sA, sB⟩ := hS
  unfold f_X6_make
  match k, hk, hc with
  | 0, _, hc =>
    rw [if_neg (by decide), if_neg (by decide), if_pos (by decide)]
    obtain ⟨τ', g1, g2, g3⟩ := m_begin (t := τ 26 14) hb s37 s38 (v0 hc.1).2.2 (sA hc.1).1
    rw [g1, b_some, m_tail0 g2 (fun z => absurd z.1 (show ¬ (1 : Int32) = 0 by decide))]
    exact ⟨τ', rfl, g2, g3⟩
  | 1, _, hc =>
    rw [if_neg (by decide), if_neg (by decide), if_neg (by decide), if_pos (by decide), ls_eq]
    obtain ⟨τ', g1, g2, g3⟩ := m_tail1 (τ := q_wr τ 26 16 (τ 26 16 - 1)) (p := p) (by rw [w_ne _ _ _ (by decide)]; exact s37) (by rw [w_ne _ _ _ (by decide)]; exact s38) (by rw [w_at, if_neg (by decide)]; exact s15) v7 hc.1 (by rw [w_at, if_pos ⟨rfl, rfl⟩, s16, v1 hc.1 hc.2]; rfl) (by rw [w_at, if_neg (by decide), s18]; exact hc.2) (by rw [w_at, if_neg (by decide)]; exact sB hc.1) v6
    rw [g1]
    exact ⟨τ', rfl, g2, Fm_t (Fm_26 _ (by decide)) g3⟩
  | 2, _, hc =>
    obtain ⟨h7, h10, h⟩ := hc
    obtain ⟨c, c4, ec⟩ := v7.resolve_left h7
    have ec' : τ 26 15 = nI c := s15.trans ec
    rw [if_neg (by decide), if_neg (by decide), if_neg (by decide), if_neg (by decide), if_pos (by decide), ec', if_neg (o_in c4 (by decide)), if_neg (o_in c4 (by decide)), z_cl (n := c) (by omega), ls_eq, ls_eq, s37 c c4]
    have q37 : ∀ i, i < 4 → q_wr (q_wr τ 37 c (p c + 1)) 26 16 1 37 i = upd p c (p c + 1) i := by
      intro i hi
      rw [w_ne _ _ _ (by decide), w_at]
      by_cases e : i = c
      · rw [if_pos ⟨rfl, e⟩, e]; simp [upd]
      · rw [if_neg (fun z => e z.2), u_ne _ _ e]
        exact s37 i hi
    rw [m_others q37, b_some, ls_eq]
    have e15 : q_wr (q_wr τ 37 c (p c + 1)) 26 16 1 26 15 = nI c := by simp [w_at, ec']
    rw [e15]
    have F0 : Fm τ (q_wr (q_wr (q_wr τ 37 c (p c + 1)) 26 16 1) 26 17 (pOth (upd p c (p c + 1)) (nI c))) := Fm_t (Fm_t (Fm_37 _ _) (Fm_26 _ (by decide))) (Fm_26 _ (by decide))
    have hS2 : SM (q_wr (q_wr (q_wr τ 37 c (p c + 1)) 26 16 1) 26 17 (pOth (upd p c (p c + 1)) (nI c))) (pBring (upd p c (p c + 1)) (nI c)) := by
      refine ⟨fun i hi => ?_, fun i hi => ?_, ?_, ?_, ?_, ?_, fun a => absurd a (nb_4 c4), fun _ => ?_⟩
      · rw [w_ne _ _ _ (by decide), q37 i hi]
        simp only [pBring]
        rw [u_ne _ _ (show i ≠ 9 by omega), u_ne _ _ (show i ≠ 8 by omega), u_ne _ _ (show i ≠ 7 by omega)]
      · rw [w_ne _ _ _ (by decide), w_ne _ _ _ (by decide), w_ne _ _ _ (by decide), s38 i hi]
        simp only [pBring]
        rw [u_ne _ _ (show 4 + i ≠ 9 by omega), u_ne _ _ (show 4 + i ≠ 8 by omega), u_ne _ _ (show 4 + i ≠ 7 by omega), u_ne _ _ (show 4 + i ≠ c by omega)]
      · rw [w_at, if_neg (by decide), e15]; rfl
      · simp [w_at]; rfl
      · simp [w_at]; rfl
      · rw [w_at, if_neg (by decide), w_at, if_neg (by decide), w_at, if_neg (by omega), s18]
        show p 10 = upd p c (p c + 1) 10
        rw [u_ne _ _ (by omega)]
      · rw [w_at, if_neg (by decide), w_at, if_neg (by decide), w_at, if_neg (by omega), sB h7]
        show p 6 = upd p c (p c + 1) 6
        rw [u_ne _ _ (by omega)]
    rw [m_tail0 hS2 (fun z => absurd z.1 (show ¬ (1 : Int32) = 0 by decide))]
    refine ⟨_, rfl, ?_, F0⟩
    show SM _ (pBring (upd p (p 7).toNatClampNeg (p (p 7).toNatClampNeg + 1)) (p 7))
    rw [ec, z_cl (n := c) (by omega)]
    exact hS2
  | 3, _, hc =>
    obtain ⟨h7, h10, h⟩ := hc
    rw [if_neg (by decide), if_neg (by decide), if_neg (by decide), if_neg (by decide), if_neg (by decide), if_pos (by decide), ls_eq, ls_eq, ls_eq]
    have hS2 : SM (q_wr (q_wr (q_wr τ 26 16 (τ 26 16 - 1)) 26 18 (nI b)) 26 17 (q_wr (q_wr τ 26 16 (τ 26 16 - 1)) 26 18 (nI b) 26 17 &&& (((1 : Int32) <<< (nI b &&& 31)) ^^^ (-1)))) (pRoq p (nI b)) := by
      refine ⟨fun i hi => ?_, fun i hi => ?_, ?_, ?_, ?_, ?_, fun a => absurd a h7, fun _ => ?_⟩
      · simp only [w_ne _ _ _ (show (37 : Nat) ≠ 26 by decide)]
        rw [s37 i hi]
        simp only [pRoq]
        rw [u_ne _ _ (by omega), u_ne _ _ (by omega), u_ne _ _ (by omega)]
      · simp only [w_ne _ _ _ (show (38 : Nat) ≠ 26 by decide)]
        rw [s38 i hi]
        simp only [pRoq]
        rw [u_ne _ _ (by omega), u_ne _ _ (by omega), u_ne _ _ (by omega)]
      · simp [w_at, s15]; rfl
      · simp [w_at, s16]; rfl
      · rw [w_at, if_pos ⟨rfl, rfl⟩, w_at, if_neg (by decide), w_at, if_neg (by decide), s17]; rfl
      · simp [w_at]; rfl
      · simp [w_at, sB h7]; rfl
    rw [m_tail0 hS2 (fun z => absurd z.2 (nb_4 hb))]
    exact ⟨_, rfl, hS2, Fm_t (Fm_t (Fm_26 _ (by decide)) (Fm_26 _ (by decide))) (Fm_26 _ (by decide))⟩
  | 4, _, hc =>
    rw [if_neg (by decide), if_neg (by decide), if_neg (by decide), if_neg (by decide), if_neg (by decide), if_neg (by decide), if_pos (by decide), ls_eq, ls_eq]
    have hS2 : SM (q_wr (q_wr τ 26 16 1) 26 18 (-4)) (pCro p) := by
      refine ⟨fun i hi => ?_, fun i hi => ?_, ?_, ?_, ?_, ?_, fun a => absurd a hc.1, fun _ => ?_⟩
      · simp only [w_ne _ _ _ (show (37 : Nat) ≠ 26 by decide)]
        rw [s37 i hi]
        simp only [pCro]
        rw [u_ne _ _ (by omega), u_ne _ _ (by omega)]
      · simp only [w_ne _ _ _ (show (38 : Nat) ≠ 26 by decide)]
        rw [s38 i hi]
        simp only [pCro]
        rw [u_ne _ _ (by omega), u_ne _ _ (by omega)]
      · simp [w_at, s15]; rfl
      · simp [w_at]; rfl
      · simp [w_at, s17]; rfl
      · simp [w_at]; rfl
      · simp [w_at, sB hc.1]; rfl
    rw [m_tail0 hS2 (fun z => absurd z.1 (show ¬ (1 : Int32) = 0 by decide))]
    exact ⟨_, rfl, hS2, Fm_t (Fm_26 _ (by decide)) (Fm_26 _ (by decide))⟩
  | 5, _, hc =>
    obtain ⟨h7, h10, h⟩ := hc
    obtain ⟨c, c4, ec⟩ := v7.resolve_left h7
    have ec' : τ 26 15 = nI c := s15.trans ec
    rw [if_neg (by decide), if_neg (by decide), if_neg (by decide), if_neg (by decide), if_neg (by decide), if_neg (by decide), if_neg (by decide), if_pos (by decide), ec', if_neg (o_in c4 (by decide)), z_cl (n := c) (by omega), ls_eq, ls_eq]
    have q37 : ∀ i, i < 4 → q_wr (q_wr τ 37 c 7) 26 16 0 37 i = upd p c 7 i := by
      intro i hi
      rw [w_ne _ _ _ (by decide), w_at]
      by_cases e : i = c
      · rw [if_pos ⟨rfl, e⟩, e]; simp [upd]
      · rw [if_neg (fun z => e z.2), u_ne _ _ e]
        exact s37 i hi
    have n7 : upd p c 7 7 = p 7 := u_ne _ _ (by omega)
    have n6 : upd p c 7 6 = p 6 := u_ne _ _ (by omega)
    obtain ⟨τ', g1, g2, g3⟩ := m_tail1 (τ := q_wr (q_wr τ 37 c 7) 26 16 0) (p := upd p c 7) q37 (fun i hi => by rw [w_ne _ _ _ (by decide), w_ne _ _ _ (by decide), s38 i hi, u_ne _ _ (by omega)]) (by rw [n7, w_at, if_neg (by decide), w_at, if_neg (by omega)]; exact s15) (by rw [n7]; exact v7) (by rw [n7]; exact h7) (by rw [w_at, if_pos ⟨rfl, rfl⟩]) (by rw [w_at, if_neg (by decide), w_at, if_neg (by omega), s18]; exact h10) (by rw [n6, w_at, if_neg (by decide), w_at, if_neg (by omega)]; exact sB h7) (by rw [n6]; exact v6)
    rw [g1]
    refine ⟨τ', rfl, ?_, Fm_t (Fm_t (Fm_37 _ _) (Fm_26 _ (by decide))) g3⟩
    show SM _ (pEnd (upd p (p 7).toNatClampNeg 7))
    rw [ec, z_cl (n := c) (by omega)]
    exact g2
  | 6, _, hc =>
    obtain ⟨h7, h11, hx, hy⟩ := hc
    rw [if_neg (by decide), if_pos (by decide)]
    unfold f_X6_make_J159
    obtain ⟨c, c4, ec⟩ := v11.resolve_left h11
    obtain ⟨t, t2, et, et', ets⟩ := s_fl v6
    rcases (sA h7).2 with ⟨c1, c2⟩ | ⟨c1, c2, c3⟩
    · exact absurd c1 h11
    have c2' : τ 26 19 = nI c := c2.trans ec
    have c3' : τ 26 20 = nI t := c3.trans et
    rw [c3', if_neg (o_in t2 (by decide)), if_neg (o_in t2 (by decide)), z_cl (n := t) (by omega), ls_eq, s38 t t2]
    rw [show q_wr τ 38 t (p (4 + t) - 1) 26 19 = nI c by rw [w_at, if_neg (by omega)]; exact c2', show q_wr τ 38 t (p (4 + t) - 1) 26 20 = nI t by rw [w_at, if_neg (by omega)]; exact c3']
    have eF : pFree p = upd (upd p 6 (nI t)) (4 + t) (p (4 + t) - 1) := by
      unfold pFree
      rw [et, z_cl (n := t) (by omega)]
    obtain ⟨τ', g1, g2, g3⟩ := m_begin (τ := q_wr τ 38 t (p (4 + t) - 1)) (p := pFree p) (t := nI t) c4 (fun i hi => by
      rw [w_ne _ _ _ (by decide), s37 i hi, eF, u_ne _ _ (by omega), u_ne _ _ (by omega)]) (fun i hi => by
      rw [w_at, eF]
      by_cases e : i = t
      · rw [if_pos ⟨rfl, e⟩, e]; simp [upd]
      · rw [if_neg (fun z => e z.2), u_ne _ _ (by omega), u_ne _ _ (by omega)]
        exact s38 i hi) (by rw [eF, u_ne _ _ (by omega), u_ne _ _ (by omega)]; exact (v0 h7).2.2) (by rw [eF, u_ne _ _ (by omega)]; rfl)
    rw [g1, b_some, m_tail0 g2 (fun z => absurd z.1 (show ¬ (1 : Int32) = 0 by decide))]
    refine ⟨τ', rfl, ?_, Fm_t (Fm_38 _ _) g3⟩
    show SM τ' (pBring (pFree p) (p 11))
    rw [ec]
    exact g2
  | n + 7, h, _ => exact absurd h (by omega)
