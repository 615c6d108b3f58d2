/-! THE LAYER's RULES: calls, ends, new cells, a method's contract -/
theorem q_good : lw_gd.all goodWord = true := List.all_eq_true.mpr (fun w hw => (List.mem_filter.mp hw).2)
theorem q_gi {ws : List Cond} (h : ∀ w ∈ ws, w ∈ lw_gd) : GoodIn lw_gd ws := fun w hw => ⟨h w hw, good_of_word (List.all_eq_true.mp q_good w (h w hw))⟩
def q_MF (M : q_Mt) (n : Nat) : Prop := plainName M.1.cls = true ∧ (M.1.cls ≠ "java/lang/invoke/MethodHandle" ∧ M.1.cls ≠ "java/lang/invoke/VarHandle" ∧ (parseMethodDescriptor M.1.desc).map (fun d => d.parameters.length) = some n) ∧ Cond.initialized M.1.cls ∈ lw_gd ∧ Cond.code M.1 M.2.1 M.2.2.1 M.2.2.2.1 ∈ lw_gd
theorem q_wsin {M : q_Mt} {n : Nat} (h : q_MF M n) : ∀ w ∈ q_ws M, w ∈ lw_gd := fun w hw => by
  rcases List.mem_cons.mp hw with rfl | h1
  · exact h.2.2.2
  · exact h1
def q_LV (own : String) (idx : Nat) (y : MethodName) : Prop := Cond.methodLink own idx y ∈ lw_gd ∧ Cond.instanceMethod y ∈ lw_gd ∧ Cond.selects y.cls y y ∈ lw_gd
def q_LS (own : String) (idx : Nat) (y : MethodName) : Prop := Cond.methodLink own idx y ∈ lw_gd ∧ Cond.static y ∈ lw_gd
def q_LSN (own : String) (idx : Nat) (y : MethodName) : Prop := (own, idx, y) ∈ q_nests ∧ Cond.static y ∈ lw_gd
def q_LI (own : String) (idx : Nat) (y : MethodName) : Prop := Cond.methodLink own idx y ∈ lw_gd ∧ Cond.instanceMethod y ∈ lw_gd ∧ y.name = "<init>"
def q_LIN (own : String) (idx : Nat) (y : MethodName) : Prop := (own, idx, y) ∈ q_nests ∧ Cond.instanceMethod y ∈ lw_gd ∧ y.name = "<init>"
theorem q_Tback {X : q_Cx} {ty : FieldType} {a N : Nat} {f f' : Nat → Value} {s t : State} {H1 : Heap} {locs : List Loc} (h0 : va_T ty a N f (q_A X) s s.heap) (h1 : va_T ty a N f' (q_A X) t H1) (hS : va_S (q_A X) s.heap H1 locs) : va_T ty a N f' (q_A X) s s.heap := by
  obtain ⟨c0, a1, a2, a3, a4, a5, a6, a7⟩ := h0
  obtain ⟨c1, b1, b2, b3, b4, b5, b6, b7⟩ := h1
  rw [hS.2.1 a (Array.getElem?_eq_some_iff.mp a1).1 a7, a1] at b1
  cases b1
  exact ⟨c0, a1, a2, a3, a4, a5, b6, a7⟩
def q_isI (t : Option FieldType) : Bool := match t with
  | none => false
  | some .long => false
  | some _ => true
section QC
variable {X : q_Cx} {M Mc : q_Mt} {Q : q_Fin} {σ : Sg} {pc pc' cs ns cs' ns' idx n : Nat} {Λ Λe : q_Lay} {l : List (Nat × Value)} {st rest As : List Value} {Ec : Rs} {E' : Sg → Int32 → Rs}
/-- what a call site owes: that the callee's run is one -/
def q_Site (X : q_Cx) (M Mc : q_Mt) (Λ Λe : q_Lay) (cs ns : Nat) (σ : Sg) (pc : Nat) (l : List (Nat × Value)) (st rest : List Value) (Ec : Rs) : Prop :=
  (∃ x, Ec = some x) → ∀ (p : Program) (e : Env) (s : State) (m : MethodId) (args : Array Value) (below : List Frame) (meth : Method) (c : Code) (H : Heap) (locs : List Loc) (ls : Array Slot), q_MC X M p s m args meth c →
    va_P (xD X) vwCl (q_W X Λ σ) H → H.size = xb X + Λ.length → Λ.length ≤ 64 → q_ST X σ s s.heap → va_S (q_A X) s.heap H locs → lv_has ls M.2.2.1 l →
    va_Run p (xl X) e M.2.2.2.2 s m args below meth c H locs cs ns Mc.2.2.2.2.cells Mc.2.2.2.2.slots (F0 m pc ls st) rest (q_QE X Λe Mc Ec #[]) (q_A X)
theorem gq_call (hr : q_Site X M Mc Λ Λe cs ns σ pc l st rest Ec) (hc : cs + Mc.2.2.2.2.cells = cs') (hn : ns + Mc.2.2.2.2.slots = ns') (hp : pc + 3 = pc')
    (kk : ∀ (σ' : Sg) (r : Int32), Ec = some (σ', r) → q_G X M Q (Λe, cs', ns') σ' pc' l ((q_rv Mc.2.2.2.1 σ' r).toList ++ rest) (E' σ' r)) : q_G X M Q (Λ, cs, ns) σ pc l st (q_bnd Ec E') := by
  subst hc; subst hn; subst hp
  intro hE p e s m args below meth c H locs ls V hP hz h6 hT hS h
  have hEc : ∃ x, Ec = some x := by
    cases hx : Ec with
    | none => rw [hx] at hE; obtain ⟨x, hE⟩ := hE; cases hE
    | some x => exact ⟨x, rfl⟩
  intro T hTT Xs
  obtain ⟨v, st₀, t, T', L, h0, X', hL, e1, e2, ⟨σ', r, hEr, hv, ⟨i1, i2, i3, i4, i5⟩, hF1, hF2⟩, stp⟩ := hr hEc p e s m args below meth c H locs ls V hP hz h6 hT hS h T hTT Xs
  cases hv
  rw [h0] at hF1 hF2
  have hS1 : va_S (q_A X) s.heap T'.heap (locs ++ L) := ⟨Nat.le_trans hS.1 (by rw [e1]; exact hF1), fun q h1 h2 => by rw [e1, hF2 q (Nat.lt_of_lt_of_le h1 hS.1) h2]; exact hS.2.1 q h1 h2, fun q hq => by
    rcases List.mem_append.mp hq with h | h
    · exact hS.2.2 q h
    · exact hL q h⟩
  have hT1 : q_ST X σ' s s.heap := q_Tback hT i5 (by rw [← e1]; exact hS1)
  have hE2 : ∃ x, E' σ' r = some x := by rw [hEr] at hE; exact hE
  have hQ : q_bnd Ec E' = E' σ' r := by rw [hEr]; rfl
  obtain ⟨t2, a1, b1⟩ := kk σ' r hEr hE2 p e s m args below meth c T'.heap (locs ++ L) ls V (by rw [e1]; exact i1) (by rw [e1]; exact i2) i3 hT1 hS1 h T' rfl X'
  rw [hQ]
  exact ⟨t2, stp t2 a1, b1⟩
theorem gq_callj (hr : q_Site X M Mc Λ Λe cs ns σ pc l st rest Ec) (hc : cs + Mc.2.2.2.2.cells = cs') (hn : ns + Mc.2.2.2.2.slots = ns') (hp : pc + 3 = pc') (ht : Mc.2.2.2.1 = some .long)
    (kk : ∀ (σ' : Sg) (r : Int32), Ec = some (σ', r) → q_G X M Q (Λe, cs', ns') σ' pc' l (.long (q_lg σ' 200 0) :: rest) (E' σ' r)) : q_G X M Q (Λ, cs, ns) σ pc l st (q_bnd Ec E') := by
  refine gq_call hr hc hn hp (fun σ' r hh => ?_)
  have h1 : (q_rv Mc.2.2.2.1 σ' r).toList ++ rest = .long (q_lg σ' 200 0) :: rest := by rw [ht]; rfl
  rw [h1]
  exact kk σ' r hh
theorem gq_calli (hr : q_Site X M Mc Λ Λe cs ns σ pc l st rest Ec) (hc : cs + Mc.2.2.2.2.cells = cs') (hn : ns + Mc.2.2.2.2.slots = ns') (hp : pc + 3 = pc') (ht : q_isI Mc.2.2.2.1 = true)
    (kk : ∀ (σ' : Sg) (r : Int32), Ec = some (σ', r) → q_G X M Q (Λe, cs', ns') σ' pc' l (.int r :: rest) (E' σ' r)) : q_G X M Q (Λ, cs, ns) σ pc l st (q_bnd Ec E') := by
  refine gq_call hr hc hn hp (fun σ' r hh => ?_)
  have h1 : (q_rv Mc.2.2.2.1 σ' r).toList ++ rest = .int r :: rest := by
    generalize Mc.2.2.2.1 = z at ht
    cases z with
    | none => cases ht
    | some t => cases t <;> first | rfl | cases ht
  rw [h1]
  exact kk σ' r hh
theorem gq_callv (hr : q_Site X M Mc Λ Λe cs ns σ pc l st rest Ec) (hc : cs + Mc.2.2.2.2.cells = cs') (hn : ns + Mc.2.2.2.2.slots = ns') (hp : pc + 3 = pc') (ht : Mc.2.2.2.1 = none)
    (kk : ∀ (σ' : Sg) (r : Int32), Ec = some (σ', r) → q_G X M Q (Λe, cs', ns') σ' pc' l rest (E' σ' r)) : q_G X M Q (Λ, cs, ns) σ pc l st (q_bnd Ec E') := by
  refine gq_call hr hc hn hp (fun σ' r hh => ?_)
  have h1 : (q_rv Mc.2.2.2.1 σ' r).toList ++ rest = rest := by rw [ht]; rfl
  rw [h1]
  exact kk σ' r hh
/-- the callee's start, out of the caller's world -/
theorem q_pre {args0 : List Value} {s : State} {H : Heap} {locs : List Loc} (hEc : ∃ x, Ec = some x) (hX : q_FX X s) (hP : va_P (xD X) vwCl (q_W X Λ σ) H) (hz : H.size = xb X + Λ.length) (h6 : Λ.length ≤ 64) (hT : q_ST X σ s s.heap) (hS : va_S (q_A X) s.heap H locs) :
    PreS s H (va_Pc args0 (fun U => (∃ x, Ec = some x) ∧ q_INV X Λ σ U)) args0 := by
  refine ⟨fun a U g mk q => ⟨q.1, q.2.1, q.2.2.1, q.2.2.2.1, q.2.2.2.2.1, q.2.2.2.2.2.1.same (u := U) (U := U.calling g mk a) rfl, q.2.2.2.2.2.2.moved (u := U) (U := U.calling g mk a) (Vm.Alike.refl U.vm) (fun _ _ _ => rfl)⟩, fun U hU hW => ?_⟩
  refine ⟨rfl, hEc, by rw [hU]; exact hP, by rw [hU]; exact hz, h6, hX.moved hW, hT.moved hW.alike ?_⟩
  intro a h1 h2
  rw [hU]
  exact hS.2.1 a h1 h2
theorem gq_siteV {o ci N : Nat} {T : u_T} {fs : List (Option (Option Nat))} (d : decode M.2.1 pc = .ok (.invokevirtual idx, 3)) (lk : q_LV M.1.cls idx Mc.1) (mf : q_MF Mc n) (hx : q_Ex X Mc Λ Λe (.ref (xa X o) :: As) σ Ec) (ho : Λ[o]? = some (.inr (ci, fs))) (hci : vwCl[ci]? = some (Mc.1.cls, T, N)) (hn : As.length = n)
    (hR : Mc.2.2.2.2.frames + 1 ≤ M.2.2.2.2.frames ∧ 8 + (Mc.2.2.1 + 11) + Mc.2.2.2.2.locals ≤ M.2.2.2.2.locals) (hf : cs + Mc.2.2.2.2.cells ≤ M.2.2.2.2.cells ∧ ns + Mc.2.2.2.2.slots ≤ M.2.2.2.2.slots) (hst : st = As.reverse ++ .ref (xa X o) :: rest) (hw : (rest.map fun v => v.category).sum ≤ 8) : q_Site X M Mc Λ Λe cs ns σ pc l st rest Ec := by
  subst hst
  intro hEc p e s m args below meth c H locs ls V hP hz h6 hT hS h
  have hG : GoodIn lw_gd (wsV M.1.cls idx Mc.1.cls Mc.1 (q_ws Mc)) := q_gi (fun w hw => by
    rcases List.mem_append.mp hw with h1 | h1
    · simp only [List.mem_cons, List.not_mem_nil, or_false] at h1
      rcases h1 with rfl | rfl | rfl | rfl
      · exact lk.1
      · exact lk.2.1
      · exact lk.2.2
      · exact mf.2.2.1
    · exact q_wsin mf w h1)
  have hpre := q_pre (args0 := .ref (xa X o) :: As) hEc V.2.2.2.2.2.2.2.2 hP hz h6 hT hS
  exact va_runV (As := As) (rest := rest) ⟨V.1, V.2.1, V.2.2.2.1, V.2.2.2.2.1, V.2.2.2.2.2.1⟩ hx (cwV n V.2.2.2.2.2.1 hG rfl rfl rfl ⟨rfl, mf.2.1⟩ hR) ⟨hpre.1, va_recv V.2.2.2.2.2.2.2.2.1 hP hci (q_Wget ho), hpre.2⟩ rfl hn h.1 rfl (lv_room hw) d hf
theorem gq_siteS (d : decode M.2.1 pc = .ok (.invokestatic idx, 3)) (lk : q_LS M.1.cls idx Mc.1) (mf : q_MF Mc n) (hx : q_Ex X Mc Λ Λe As σ Ec) (hn : As.length = n)
    (hR : Mc.2.2.2.2.frames + 1 ≤ M.2.2.2.2.frames ∧ 8 + (Mc.2.2.1 + 11) + Mc.2.2.2.2.locals ≤ M.2.2.2.2.locals) (hf : cs + Mc.2.2.2.2.cells ≤ M.2.2.2.2.cells ∧ ns + Mc.2.2.2.2.slots ≤ M.2.2.2.2.slots) (hst : st = As.reverse ++ rest) (hw : (rest.map fun v => v.category).sum ≤ 8) : q_Site X M Mc Λ Λe cs ns σ pc l st rest Ec := by
  subst hst
  intro hEc p e s m args below meth c H locs ls V hP hz h6 hT hS h
  have hG : GoodIn lw_gd (va_wsS M.1.cls idx Mc.1 (q_ws Mc)) := q_gi (fun w hw => by
    rcases List.mem_append.mp hw with h1 | h1
    · simp only [List.mem_cons, List.not_mem_nil, or_false] at h1
      rcases h1 with rfl | rfl | rfl
      · exact lk.1
      · exact lk.2
      · exact mf.2.2.1
    · exact q_wsin mf w h1)
  have hpre := q_pre (args0 := As) hEc V.2.2.2.2.2.2.2.2 hP hz h6 hT hS
  exact va_runS (As := As) (rest := rest) ⟨V.1, V.2.1, V.2.2.2.1, V.2.2.2.2.1, V.2.2.2.2.2.1⟩ hx (va_cwS n V.2.2.2.2.2.1 hG rfl rfl rfl mf.2.1 hR) hpre rfl hn h.1 rfl (lv_room hw) d hf
theorem gq_siteSN (d : decode M.2.1 pc = .ok (.invokestatic idx, 3)) (lk : q_LSN M.1.cls idx Mc.1) (mf : q_MF Mc n) (hx : q_Ex X Mc Λ Λe As σ Ec) (hn : As.length = n)
    (hR : Mc.2.2.2.2.frames + 1 ≤ M.2.2.2.2.frames ∧ 8 + (Mc.2.2.1 + 11) + Mc.2.2.2.2.locals ≤ M.2.2.2.2.locals) (hf : cs + Mc.2.2.2.2.cells ≤ M.2.2.2.2.cells ∧ ns + Mc.2.2.2.2.slots ≤ M.2.2.2.2.slots) (hst : st = As.reverse ++ rest) (hw : (rest.map fun v => v.category).sum ≤ 8) : q_Site X M Mc Λ Λe cs ns σ pc l st rest Ec := by
  subst hst
  intro hEc p e s m args below meth c H locs ls V hP hz h6 hT hS h
  have hpre := q_pre (args0 := As) hEc V.2.2.2.2.2.2.2.2 hP hz h6 hT hS
  exact va_runSN (As := As) (rest := rest) ⟨V.1, V.2.1, V.2.2.2.1, V.2.2.2.2.1, V.2.2.2.2.2.1⟩ hx ⟨va_cnB n V.2.2.2.2.2.1 (q_gi (q_wsin mf)) rfl rfl rfl (V.2.2.2.2.2.2.2.2.2.1 _ lk.1) (V.2.2.2.2.2.1 _ mf.2.2.1) mf.2.1 hR, V.2.2.2.2.2.1 _ lk.2, trivial⟩ hpre rfl hn h.1 rfl (lv_room hw) d hf
theorem gq_siteI {o : Nat} (d : decode M.2.1 pc = .ok (.invokespecial idx, 3)) (lk : q_LI M.1.cls idx Mc.1) (mf : q_MF Mc n) (hret : Mc.2.2.2.1 = none) (hx : q_Ex X Mc Λ Λe (.ref (xa X o) :: As) σ Ec) (hn : As.length = n)
    (hR : Mc.2.2.2.2.frames + 1 ≤ M.2.2.2.2.frames ∧ 8 + (Mc.2.2.1 + 11) + Mc.2.2.2.2.locals ≤ M.2.2.2.2.locals) (hf : cs + Mc.2.2.2.2.cells ≤ M.2.2.2.2.cells ∧ ns + Mc.2.2.2.2.slots ≤ M.2.2.2.2.slots) (hst : st = As.reverse ++ .ref (xa X o) :: rest) (hw : (rest.map fun v => v.category).sum ≤ 8) : q_Site X M Mc Λ Λe cs ns σ pc l st rest Ec := by
  subst hst
  intro hEc p e s m args below meth c H locs ls V hP hz h6 hT hS h
  have hpre := q_pre (args0 := .ref (xa X o) :: As) hEc V.2.2.2.2.2.2.2.2 hP hz h6 hT hS
  exact va_runI (As := As) (rest := rest) ⟨V.1, V.2.1, V.2.2.2.1, V.2.2.2.2.1, V.2.2.2.2.2.1⟩ hx (cwI n V.2.2.2.2.2.1 (q_gi (q_wsin mf)) (by unfold q_ws; rw [hret]) rfl rfl (V.2.2.2.2.2.1 _ mf.2.2.1) (V.2.2.2.2.2.1 _ lk.1) (V.2.2.2.2.2.1 _ lk.2.1) lk.2.2 mf.2.1 hR) hpre rfl hn h.1 rfl (lv_room hw) d hf
theorem gq_siteIN {o : Nat} (d : decode M.2.1 pc = .ok (.invokespecial idx, 3)) (lk : q_LIN M.1.cls idx Mc.1) (mf : q_MF Mc n) (hret : Mc.2.2.2.1 = none) (hx : q_Ex X Mc Λ Λe (.ref (xa X o) :: As) σ Ec) (hn : As.length = n)
    (hR : Mc.2.2.2.2.frames + 1 ≤ M.2.2.2.2.frames ∧ 8 + (Mc.2.2.1 + 11) + Mc.2.2.2.2.locals ≤ M.2.2.2.2.locals) (hf : cs + Mc.2.2.2.2.cells ≤ M.2.2.2.2.cells ∧ ns + Mc.2.2.2.2.slots ≤ M.2.2.2.2.slots) (hst : st = As.reverse ++ .ref (xa X o) :: rest) (hw : (rest.map fun v => v.category).sum ≤ 8) : q_Site X M Mc Λ Λe cs ns σ pc l st rest Ec := by
  subst hst
  intro hEc p e s m args below meth c H locs ls V hP hz h6 hT hS h
  have hpre := q_pre (args0 := .ref (xa X o) :: As) hEc V.2.2.2.2.2.2.2.2 hP hz h6 hT hS
  exact va_runIN (As := As) (rest := rest) ⟨V.1, V.2.1, V.2.2.2.1, V.2.2.2.2.1, V.2.2.2.2.2.1⟩ hx ⟨va_cnB n V.2.2.2.2.2.1 (q_gi (q_wsin mf)) (by unfold q_ws; rw [hret]) rfl rfl (V.2.2.2.2.2.2.2.2.2.1 _ lk.1) (V.2.2.2.2.2.1 _ mf.2.2.1) mf.2.1 hR, lk.2.2, V.2.2.2.2.2.1 _ lk.2.1⟩ hpre rfl hn h.1 rfl (lv_room hw) d hf
end QC
