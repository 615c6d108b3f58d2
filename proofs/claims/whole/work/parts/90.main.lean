/-! THE LAW ANSWERS 1 -/
theorem q_main (xs : Nat → Int32) {L : Nat} (hL : L ≤ 2048) : ∃ σ', f_L_law L (q_s0 xs) = some (σ', 1) := by
  have hz : ∀ o, o < 100 → ∀ i, q_s0 xs o i = 0 := by
    intro o ho i
    unfold q_s0
    rw [if_neg (by omega), if_neg (by omega)]
  obtain ⟨c, c1, c2, c17, c17', c18, c18', c22, c23, c24⟩ := i_class (s := q_s0 xs) hz
  have hc : ∀ o, 26 ≤ o → o < 100 → ∀ i, c o i = 0 := fun o h ho i => by rw [c2 o (by omega) (by omega) (by omega) (by omega) (by omega) (by omega)]; exact hz o ho i
  obtain ⟨σ, s1, s2, s27, s26, s31, s39, s39', s40, s40', s44⟩ := i_ref (s := c) hc
  unfold f_L_law
  rw [ls_eq, z_clr (hz 0 (by decide)), c1, b_some, ls_eq, z_clr (hc 26 (by decide) (by decide)), s1, b_some]
  have T : ∀ o, o < 26 ∨ 45 < o → o ≠ 17 → o ≠ 18 → o ≠ 22 → o ≠ 23 → o ≠ 24 → o ≠ 25 → σ o = q_s0 xs o := fun o h a b d e f g => by rw [s2 o h, c2 o a b d e f g]
  refine law_loop (xs := xs) hL 600 0 1000 σ (by omega) (by decide) (by decide) ⟨?_, fun j hj i hi => ?_, fun i hi => ?_, ⟨fun _ => none, fun m hm => ?_, fun m hm => ?_, fun m k h => by simp at h, fun m hm h => absurd rfl h⟩, ⟨fun _ => none, fun m hm => ?_, fun m hm => ?_, fun m hm k h => by simp at h, ?_, ?_⟩, ⟨fun _ => 0, 0, fun k => if k = 0 then some (5, true) else if k = 1 then some (2, false) else none, ⟨?_, fun i h => absurd h (by omega), fun k hk => ?_⟩, ⟨?_, fun i h => absurd h (by omega), fun k hk => ?_⟩, ⟨by decide, fun i h => absurd h (by omega), fun k v b h => ?_⟩⟩, Or.inl ⟨?_, ?_, ?_⟩⟩
  · rw [T 105 (by decide) (by decide) (by decide) (by decide) (by decide) (by decide) (by decide)]
    funext i
    unfold q_s0
    rw [if_pos rfl]
  · rw [T (100 + j) (by omega) (by omega) (by omega) (by omega) (by omega) (by omega) (by omega)]
    unfold q_s0
    rw [if_neg (by omega), if_pos (by omega), Nat.add_sub_cancel_left]
  · rw [s27 i hi, s2 22 (by decide), c22 i hi]
    exact ⟨rfl, by decide, by decide⟩
  · rw [s2 24 (by decide)]; exact (c24 m hm).1
  · exact (s44 m hm).1
  · rw [s2 25 (by decide)]; exact (c24 m hm).2
  · exact (s44 m hm).2
  · rw [s31, s2 23 (by decide), c23]
  · rw [s2 23 (by decide), c23]; decide
  · rw [T 15 (by decide) (by decide) (by decide) (by decide) (by decide) (by decide) (by decide)]; exact hz 15 (by decide) 1
  · match k, hk with
    | 0, _ => exact ⟨by rw [s2 17 (by decide)]; exact c17, by rw [s2 18 (by decide)]; exact c18⟩
    | 1, _ => exact ⟨by rw [s2 17 (by decide)]; exact c17', by rw [s2 18 (by decide)]; exact c18'⟩
    | n + 2, h => exact absurd h (by omega)
  · exact s26 27 (by decide)
  · match k, hk with
    | 0, _ => exact ⟨s39, s40⟩
    | 1, _ => exact ⟨s39', s40'⟩
    | n + 2, h => exact absurd h (by omega)
  · have h : (if k = 0 then some (5, true) else if k = 1 then some (2, false) else none) = some (v, b) := h
    by_cases k0 : k = 0
    · rw [if_pos k0] at h
      simp only [Option.some.injEq, Prod.mk.injEq] at h
      omega
    · rw [if_neg k0] at h
      by_cases k1 : k = 1
      · rw [if_pos k1] at h
        simp only [Option.some.injEq, Prod.mk.injEq] at h
        omega
      · rw [if_neg k1] at h
        simp at h
  · rw [T 1 (by decide) (by decide) (by decide) (by decide) (by decide) (by decide) (by decide)]; exact hz 1 (by decide) 9
  · rw [T 1 (by decide) (by decide) (by decide) (by decide) (by decide) (by decide) (by decide)]; exact hz 1 (by decide) 10
  · exact s26 1 (by decide)
