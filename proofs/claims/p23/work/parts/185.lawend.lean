/-! the law's own end -/
def q_QL (X : q_Cx) : q_Fin := fun E below _ s => fun t => s.heap.size ≤ xb X → ∃ (σ' : Sg) (r : Int32), E = some (σ', r) ∧ t.status = .running ∧ Ended t below (.returned (some (.int r))) ∧ Framed s (.returned (some (.int r))) t [] 27 1099
theorem q_Wmono {p : Program} {l : Launch} {e : Env} {R : Room} {s : State} {m : MethodId} {args : Array Value} {below : List Frame} {meth : Method} {c : Code} {H : Heap} {locs : List Loc} {cells slots : Nat} {Q Q' : State → Prop} {g : JFrame} (k : W p l e R s m args below meth c H locs cells slots Q g) (h : ∀ t, Q t → Q' t) : W p l e R s m args below meth c H locs cells slots Q' g := by
  intro T hT X
  obtain ⟨t, a, b⟩ := k T hT X
  exact ⟨t, a, h t b⟩
theorem gq_law {X : q_Cx} {M : q_Mt} {Λ : q_Lay} {σ : Sg} {pc : Nat} {l : List (Nat × Value)} {r : Int32} (d : decode M.2.1 pc = .ok (.ireturn, 1)) (ht : M.2.2.2.1 = some .boolean) (hr : narrow .boolean (.int r) = .int r) (hc : M.2.2.2.2.cells = 27) (hn : M.2.2.2.2.slots = 1099) : q_G X M (q_QL X) (Λ, 27, 1099) σ pc l [.int r] (some (σ, r)) := by
  intro hE p e s m args below meth c H locs ls V hP hz h6 hT hS h
  by_cases hb : s.heap.size ≤ xb X
  · refine va_forget (fun q hq => Nat.le_trans hb (hS.2.2 q hq)) ?_
    refine q_Wmono (W.zret (Qc := fun _ _ o _ => o = .returned (some (.int r))) (free := fun _ => False) (v := r) V.1 V.2.1 (V.2.2.1.trans ht) hr (fun t ht' hW => rfl) (fun q hq => by cases hq) d V.2.2.2.2.2.2.1) ?_
    intro t ht2 _
    obtain ⟨o, h1, h2, h3, L, h4, h5⟩ := ht2
    subst h3
    have hL : L = [] := by
      cases L with
      | nil => rfl
      | cons a L => exact (h5 a List.mem_cons_self).elim
    subst hL
    exact ⟨σ, r, rfl, h1, h2, h4⟩
  · intro T hT X
    exact ⟨_, Steps.refl _, fun h => absurd h hb⟩
