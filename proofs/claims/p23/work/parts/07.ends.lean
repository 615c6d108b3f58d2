/-! THE LAYER's RULES: ends, new cells, a method's contract out of its walk -/
section QN
variable {X : q_Cx} {M Mc : q_Mt} {Q : q_Fin} {ph : q_Lay × Nat × Nat} {σ : Sg} {pc pc' cs ns cs' ns' idx n : Nat} {Λ Λ' Λe : q_Lay} {l : List (Nat × Value)} {st rest As : List Value} {E : Rs}
theorem q_fin {E : Rs} {σ : Sg} {r : Int32} {s t : State} {args : Array Value} {H : Heap} {locs : List Loc} {p : Program} {m : MethodId} {meth : Method} {c : Code} (V : q_MC X M p s m args meth c) (hEr : E = some (σ, r)) (hP : va_P (xD X) vwCl (q_W X Λe σ) H) (hz : H.size = xb X + Λe.length) (h6 : Λe.length ≤ 64) (hT : q_ST X σ s s.heap) (hS : va_S (q_A X) s.heap H locs) (ht : t.heap = H) (hW : s.WarmedH t.vm) {o : Outcome} (ho : o = .returned (q_rv M.2.2.2.1 σ r)) : q_QE X Λe M E args s o t :=
  ⟨σ, r, hEr, ho, ⟨by rw [ht]; exact hP, by rw [ht]; exact hz, h6, V.2.2.2.2.2.2.2.2.moved hW, hT.moved hW.alike (by rw [ht]; exact hS.2.1)⟩, hS.F ht⟩
theorem gq_iret {r : Int32} (d : decode M.2.1 pc = .ok (.ireturn, 1)) (ht : M.2.2.2.1 = some .int) (hc : M.2.2.2.2.cells = cs) (hn : M.2.2.2.2.slots = ns) : q_G X M (q_QM X Λ M) (Λ, cs, ns) σ pc l [.int r] (some (σ, r)) := by
  subst hc; subst hn
  intro hE p e s m args below meth c H locs ls V hP hz h6 hT hS h
  exact W.iret (v := r) V.1 V.2.1 (V.2.2.1.trans ht) (fun t ht' hW => q_fin V rfl hP hz h6 hT hS ht' hW (by rw [ht]; rfl)) hS.2.2 d V.2.2.2.2.2.2.1
theorem gq_zret {r : Int32} (d : decode M.2.1 pc = .ok (.ireturn, 1)) (ht : M.2.2.2.1 = some .boolean) (hr : narrow .boolean (.int r) = .int r) (hc : M.2.2.2.2.cells = cs) (hn : M.2.2.2.2.slots = ns) : q_G X M (q_QM X Λ M) (Λ, cs, ns) σ pc l [.int r] (some (σ, r)) := by
  subst hc; subst hn
  intro hE p e s m args below meth c H locs ls V hP hz h6 hT hS h
  exact W.zret (v := r) V.1 V.2.1 (V.2.2.1.trans ht) hr (fun t ht' hW => q_fin V rfl hP hz h6 hT hS ht' hW (by rw [ht]; rfl)) hS.2.2 d V.2.2.2.2.2.2.1
/-- a boolean that isn't written out: nothing is said where it isn't one -/
theorem gq_zretq {r : Int32} (d : decode M.2.1 pc = .ok (.ireturn, 1)) (ht : M.2.2.2.1 = some .boolean) (hc : M.2.2.2.2.cells = cs) (hn : M.2.2.2.2.slots = ns) : q_G X M (q_QM X Λ M) (Λ, cs, ns) σ pc l [.int r] (if vp_nar .boolean r = r then some (σ, r) else none) := by
  refine gq_ite (fun h => gq_zret d ht ?_ hc hn) (fun _ => gq_none)
  have e : narrow .boolean (.int r) = .int (vp_nar .boolean r) := rfl
  rw [e, h]
theorem gq_vret (d : decode M.2.1 pc = .ok (.return_, 1)) (ht : M.2.2.2.1 = none) (hc : M.2.2.2.2.cells = cs) (hn : M.2.2.2.2.slots = ns) : q_G X M (q_QM X Λ M) (Λ, cs, ns) σ pc l [] (some (σ, 0)) := by
  subst hc; subst hn
  intro hE p e s m args below meth c H locs ls V hP hz h6 hT hS h
  exact W.vret V.1 V.2.1 (V.2.2.1.trans ht) (fun t ht' hW => q_fin V rfl hP hz h6 hT hS ht' hW (by rw [ht]; rfl)) hS.2.2 d V.2.2.2.2.2.2.1
theorem gq_lret {v : Int64} (d : decode M.2.1 pc = .ok (.lreturn, 1)) (ht : M.2.2.2.1 = some .long) (hc : M.2.2.2.2.cells = cs) (hn : M.2.2.2.2.slots = ns) : q_G X M (q_QM X Λ M) (Λ, cs, ns) σ pc l [.long v] (some (q_wrl σ 200 0 v, 0)) := by
  subst hc; subst hn
  intro hE p e s m args below meth c H locs ls V hP hz h6 hT hS h
  have hw : ∀ o, o ≠ 200 → q_wrl σ 200 0 v o = σ o := fun o ho => q_wrl_ne ho
  have eW : q_W X Λ (q_wrl σ 200 0 v) = q_W X Λ σ := by
    apply List.ext_getElem?
    intro i
    simp only [q_W, List.getElem?_mapIdx]
    by_cases hi : i < Λ.length
    · rw [List.getElem?_eq_getElem hi]
      simp [q_cell_ne (hw i (by have h7 : Λ.length ≤ 64 := h6; omega))]
    · rw [List.getElem?_eq_none (by omega)]
      rfl
  exact W.lret (v := v) V.1 V.2.1 (V.2.2.1.trans ht) (fun t ht' hW => q_fin (r := 0) V rfl (by rw [eW]; exact hP) hz h6 (q_STw hT (fun o ho => hw o (by omega))) hS ht' hW (by rw [ht]; show _ = Outcome.returned (some (.long (q_lg (q_wrl σ 200 0 v) 200 0))); rw [q_lg_wrl])) hS.2.2 d V.2.2.2.2.2.2.1
/-- a method's contract out of its walk -/
theorem gq_ex {args : List Value} (mf : q_MF M n) (hl : (lg_sl args).length ≤ M.2.2.1) (hG : q_G X M (q_QM X Λe M) (Λ, 0, 0) σ 0 (lv_args 0 args) [] E) : q_Ex X M Λ Λe args σ E := by
  refine Met.ofW (cc := M.2.1) (maxL := M.2.2.1) (ret := M.2.2.2.1) mf.1 rfl ?_
  intro p e s m args' below meth c s₁ B hml hv
  obtain ⟨rfl, hE, hP, hsz, h64, hFX, hST⟩ := hv
  have hts := atoms_spec (ws := q_ws M) B.pre
  rw [lg_entry_eq]
  exact hG hE p e s m _ below meth c s.heap [] _ ⟨B.exec, B.bytes, B.returns, hml, findClass_of_methodNamed B.named, fun w h => hts w (List.mem_cons_of_mem _ h), B.notSynchronized, fun h => (name_of_methodNamed B.named B.method).1.trans h, hFX⟩ hP hsz h64 hST va_S.rf (lv_entry args hl)
/-- Object's constructor -/
theorem gq_objI {a : Nat} (d : decode M.2.1 pc = .ok (.invokespecial idx, 3)) (hp : pc + 3 = pc') (h1 : Cond.methodLink M.1.cls idx Lib.objectInit ∈ lw_gd) (h2 : Cond.instanceMethod Lib.objectInit ∈ lw_gd) (h3 : Cond.code Lib.objectInit ⟨#[0xb1]⟩ 1 none ∈ lw_gd) (hf : 1 ≤ M.2.2.2.2.frames) (hlo : (st.map fun v => v.category).sum + 12 ≤ M.2.2.2.2.locals) (kk : q_G X M Q ph σ pc' l st E) : q_G X M Q ph σ pc l (.ref a :: st) E := by
  subst hp
  intro hE p e s m args below meth c H locs ls V hP hz h6 hT hS h
  refine W.objInit V.1 V.2.1 V.2.2.2.2.1 (V.2.2.2.2.2.1 _ h1) (V.2.2.2.2.2.1 _ h2) (V.2.2.2.2.2.1 _ h3) rfl (by rw [V.2.2.2.1]; exact h.1) rfl d hf ?_ ?_
  · have e : (F0 m pc ls (.ref a :: st)).monitorRoom = 0 := rfl
    rw [e]; omega
  · exact W.eq (g2 := F0 m (pc + 3) ls st) rfl (kk hE p e s m args below meth c H locs ls V hP hz h6 hT hS h)
/-- a new object: the next one -/
theorem gq_new {ci N : Nat} {C : String} {T : u_T} {ty : Nat → FieldType} {fs : List (Option (Option Nat))} (d : decode M.2.1 pc = .ok (.new idx, 3)) (hp : pc + 3 = pc') (h1 : Cond.classLink M.1.cls idx C ∈ lw_gd) (h2 : Cond.instantiable C N ∈ lw_gd) (h3 : Cond.initialized C ∈ lw_gd) (hin : ∀ w ∈ u_ws C T N, w ∈ lw_gd) (hty : ∀ k, k < N → parseFieldDescriptor (T k).2.2.1 = some (ty k)) (hc : vwCl[ci]? = some (C, T, N))
    (hfs : ∀ j, j < N → defaultValue (ty j) = (match fs[j]? with | some none => .int 0 | _ => .null)) (hfl : fs.length = N) (hfn : ∀ t ∈ fs, t = none ∨ t = some none) (hcs : cs + 1 ≤ M.2.2.2.2.cells) (hns : ns + N ≤ M.2.2.2.2.slots) {o : Nat} (ho : Λ.length = o) (h64 : o < 64) (hcs' : cs + 1 = cs') (hns' : ns + N = ns') (hΛ : Λ ++ [.inr (ci, fs)] = Λ')
    (kk : q_G X M Q (Λ', cs', ns') (q_clr σ o) pc' l (.ref (xa X o) :: st) E) : q_G X M Q (Λ, cs, ns) σ pc l st E := by
  subst hp; subst ho; subst hcs'; subst hns'; subst hΛ
  intro hE p e s m args below meth c H locs ls V hP hz h6 hT hS h
  have hK := V.2.2.2.2.2.2.2.2.1
  have hKn := hK.1 ci _ hc
  have hb := V.2.2.2.2.2.2.2.2.2.2 Λ.length h64
  have hzz : H.size = xa X Λ.length := by rw [hb]; exact hz
  refine W.newcK V.1 V.2.1 V.2.2.2.2.1 (V.2.2.2.2.2.1 _ h1) (V.2.2.2.2.2.1 _ h2) (V.2.2.2.2.2.1 _ h3) rfl d hcs hns hKn.2.1 rfl fun H1 kC hkC e1 z1 o1 => ?_
  have hk : ∀ (k : Nat) (x : Nat × va_E), (q_W X Λ σ)[k]? = some x → H1[x.1]? = H[x.1]? := fun k x hx => o1 x.1 ((hP k x hx).lt)
  have hcell : q_cell X (q_clr σ Λ.length) Λ.length (.inr (ci, fs)) = .inr (ci, fs.mapIdx (fun k r => q_fv X (q_clr σ Λ.length) Λ.length k r)) := rfl
  have hP1 : va_P (xD X) vwCl (q_W X (Λ ++ [.inr (ci, fs)]) (q_clr σ Λ.length)) H1 := by
    rw [← q_Wpush hcell]
    refine (hP.kept hk).app (fun k x hx => ?_)
    have hz : k < 1 := (List.getElem?_eq_some_iff.mp hx).1
    rw [show k = 0 by omega] at hx
    cases hx
    refine ⟨_, hc, (u_born ty V.2.2.2.2.2.1 hin hKn hkC (by rw [← hzz]; exact e1) hty).to (fun j hj => ?_)⟩
    rw [hfs j hj]
    have hj2 : j < fs.length := by omega
    simp only [vp_V, List.getD_eq_getElem?_getD, List.getElem?_mapIdx, List.getElem?_eq_getElem hj2, Option.map_some, Option.getD_some]
    rcases hfn _ (List.getElem_mem hj2) with h | h <;> rw [h] <;> simp [q_fv, q_clr]
  rw [hzz]
  exact kk hE p e s m args below meth c H1 locs ls V hP1 (by rw [z1, hz]; simp; omega) (by simp; omega) (q_STw hT (fun o' h => q_clr_ne (by omega))) ⟨Nat.le_trans hS.1 (by omega), fun x h1 h2 => (o1 x (Nat.lt_of_lt_of_le h1 hS.1)).trans (hS.2.1 x h1 h2), hS.2.2⟩ h
theorem gq_newa {atype : ArrayType} {v : Int32} (d : decode M.2.1 pc = .ok (.newarray atype, 2)) (hp : pc + 2 = pc') (h1 : Cond.arrayClass (newarray.typeOf atype) ∈ lw_gd) (hz0 : newarray.typeOf atype = .int) (hn : ¬ v < 0) (hN : v.toNatClampNeg = n) (hbytes : n * componentBytes (newarray.typeOf atype) ≤ 536870912) (hcs : cs + 1 ≤ M.2.2.2.2.cells) (hns : ns + n ≤ M.2.2.2.2.slots) {o : Nat} (ho : Λ.length = o) (h64 : o < 64) (hcs' : cs + 1 = cs') (hns' : ns + n = ns') (hΛ : Λ ++ [.inl (false, n)] = Λ')
    (kk : q_G X M Q (Λ', cs', ns') (q_clr σ o) pc' l (.ref (xa X o) :: st) E) : q_G X M Q (Λ, cs, ns) σ pc l (.int v :: st) E := by
  subst hp; subst ho; subst hcs'; subst hns'; subst hΛ
  intro hE p e s m args below meth c H locs ls V hP hz h6 hT hS h
  have hK := V.2.2.2.2.2.2.2.2.1
  have hb := V.2.2.2.2.2.2.2.2.2.2 Λ.length h64
  have hzz : H.size = xa X Λ.length := by rw [hb]; exact hz
  refine va_newaK V.1 V.2.1 (V.2.2.2.2.2.1 _ h1) rfl d rfl hn hN hbytes hcs hns hzz fun H1 cA e1 z1 o1 hAr hNm => ?_
  have hk : ∀ (k : Nat) (x : Nat × va_E), (q_W X Λ σ)[k]? = some x → H1[x.1]? = H[x.1]? := fun k x hx => o1 x.1 (by rw [← hzz]; exact (hP k x hx).lt)
  have hcA : cA = xI X := by
    have h2 := (hK.2 0 (xI X, .int) rfl).2
    rw [hz0] at hNm
    exact Option.some.inj (hNm.symm.trans h2)
  have hcell : q_cell X (q_clr σ Λ.length) Λ.length (.inl (false, n)) = .inl (cA, n, .inl (fun _ => 0)) := by
    rw [hcA]; simp [q_cell, q_clr]
  have hP1 : va_P (xD X) vwCl (q_W X (Λ ++ [.inl (false, n)]) (q_clr σ Λ.length)) H1 := by
    rw [← q_Wpush hcell]
    refine (hP.kept hk).app (fun k x hx => ?_)
    have hz : k < 1 := (List.getElem?_eq_some_iff.mp hx).1
    rw [show k = 0 by omega] at hx
    cases hx
    show H1[_]? = some (vp_cell _ _)
    rw [e1, vp_cell_i, hz0]
    rfl
  exact kk hE p e s m args below meth c H1 locs ls V hP1 (by rw [z1, ← hzz, hz]; simp; omega) (by simp; omega) (q_STw hT (fun o' h => q_clr_ne (by omega))) ⟨Nat.le_trans hS.1 (by omega), fun x h1 h2 => (o1 x (by rw [← hzz]; exact Nat.lt_of_lt_of_le h1 hS.1)).trans (hS.2.1 x h1 h2), hS.2.2⟩ h
theorem gq_newl {atype : ArrayType} {v : Int32} (d : decode M.2.1 pc = .ok (.newarray atype, 2)) (hp : pc + 2 = pc') (h1 : Cond.arrayClass (newarray.typeOf atype) ∈ lw_gd) (hz0 : newarray.typeOf atype = .long) (hn : ¬ v < 0) (hN : v.toNatClampNeg = n) (hbytes : n * componentBytes (newarray.typeOf atype) ≤ 536870912) (hcs : cs + 1 ≤ M.2.2.2.2.cells) (hns : ns + n ≤ M.2.2.2.2.slots) {o : Nat} (ho : Λ.length = o) (h64 : o < 64) (hcs' : cs + 1 = cs') (hns' : ns + n = ns') (hΛ : Λ ++ [.inl (true, n)] = Λ')
    (kk : q_G X M Q (Λ', cs', ns') (q_clr σ o) pc' l (.ref (xa X o) :: st) E) : q_G X M Q (Λ, cs, ns) σ pc l (.int v :: st) E := by
  subst hp; subst ho; subst hcs'; subst hns'; subst hΛ
  intro hE p e s m args below meth c H locs ls V hP hz h6 hT hS h
  have hK := V.2.2.2.2.2.2.2.2.1
  have hb := V.2.2.2.2.2.2.2.2.2.2 Λ.length h64
  have hzz : H.size = xa X Λ.length := by rw [hb]; exact hz
  refine va_newaK V.1 V.2.1 (V.2.2.2.2.2.1 _ h1) rfl d rfl hn hN hbytes hcs hns hzz fun H1 cA e1 z1 o1 hAr hNm => ?_
  have hk : ∀ (k : Nat) (x : Nat × va_E), (q_W X Λ σ)[k]? = some x → H1[x.1]? = H[x.1]? := fun k x hx => o1 x.1 (by rw [← hzz]; exact (hP k x hx).lt)
  have hcA : cA = xZ X := by
    have h2 := (hK.2 1 (xZ X, .long) rfl).2
    rw [hz0] at hNm
    exact Option.some.inj (hNm.symm.trans h2)
  have hcell : q_cell X (q_clr σ Λ.length) Λ.length (.inl (true, n)) = .inl (cA, n, .inr (.inl (fun _ => 0))) := by
    rw [hcA]
    have e : q_lg (q_clr σ Λ.length) Λ.length = fun _ => 0 := funext (fun k => q_lg_clr σ _ k)
    simp [q_cell, e]
  have hP1 : va_P (xD X) vwCl (q_W X (Λ ++ [.inl (true, n)]) (q_clr σ Λ.length)) H1 := by
    rw [← q_Wpush hcell]
    refine (hP.kept hk).app (fun k x hx => ?_)
    have hz : k < 1 := (List.getElem?_eq_some_iff.mp hx).1
    rw [show k = 0 by omega] at hx
    cases hx
    show H1[_]? = some (vp_cell _ _)
    rw [e1, vp_cell_l, hz0]
    rfl
  exact kk hE p e s m args below meth c H1 locs ls V hP1 (by rw [z1, ← hzz, hz]; simp; omega) (by simp; omega) (q_STw hT (fun o' h => q_clr_ne (by omega))) ⟨Nat.le_trans hS.1 (by omega), fun x h1 h2 => (o1 x (by rw [← hzz]; exact Nat.lt_of_lt_of_le h1 hS.1)).trans (hS.2.1 x h1 h2), hS.2.2⟩ h
end QN
