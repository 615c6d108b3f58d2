/-! THE LAYER: a method's frame over one world of fixed shape.
  σ: object number, slot -> int. Λ: what the objects are (arrays, objects with their references). q_G: 'from here the machine comes to the method's end with E' (E none: nothing is said). q_Ex: the contract of a method. -/
/-- the words that a callee is given: all but those of nest mates, which come beside -/
def lw_gd : List Cond := lw_tbl.filter goodWord
def q_nests : List (String × Nat × MethodName) := [("CroquetLawn", 11, ⟨"CroquetLawn$Play", "<init>", "()V"⟩), ("CroquetLawn$Play", 35, ⟨"CroquetLawn$Position", "<init>", "()V"⟩), ("CroquetLawn$Laws", 27, ⟨"CroquetLawn", "set", "([III)V"⟩), ("CroquetLawn$Roster", 21, ⟨"CroquetLawn", "at", "([II)I"⟩), ("CroquetLawn$Play", 43, ⟨"CroquetLawn", "set", "([III)V"⟩), ("CroquetLawn$Position", 24, ⟨"CroquetLawn", "set", "([III)V"⟩), ("CroquetLawn$Position", 61, ⟨"CroquetLawn", "at", "([II)I"⟩), ("CroquetLawn$Play", 69, ⟨"CroquetLawn", "at", "([II)I"⟩), ("CroquetLawn$Laws", 31, ⟨"CroquetLawn", "at", "([II)I"⟩), ("CroquetLawn$Roster", 25, ⟨"CroquetLawn", "set", "([III)V"⟩), ("CroquetLawn$Laws", 35, ⟨"CroquetLawn", "within", "(III)Z"⟩)]
abbrev Sg : Type := Nat → Nat → Int32
abbrev Rs : Type := Option (Sg × Int32)
def q_wr (σ : Sg) (o k : Nat) (v : Int32) : Sg := fun o' => if o' = o then upd (σ o) k v else σ o'
def q_clr (σ : Sg) (o : Nat) : Sg := fun o' => if o' = o then (fun _ => 0) else σ o'
def q_bnd (x : Rs) (f : Sg → Int32 → Rs) : Rs := match x with
  | none => none
  | some (s, r) => f s r
abbrev q_Kd : Type := (Bool × Nat) ⊕ (Nat × List (Option (Option Nat)))
abbrev q_Lay : Type := List q_Kd
abbrev q_Cx : Type := Launch × va_G × (ClassId × ClassId) × (Nat → Nat) × Nat × Nat
abbrev xl (X : q_Cx) : Launch := X.1
abbrev xD (X : q_Cx) : va_G := X.2.1
abbrev xI (X : q_Cx) : ClassId := X.2.2.1.1
abbrev xZ (X : q_Cx) : ClassId := X.2.2.1.2
abbrev xa (X : q_Cx) : Nat → Nat := X.2.2.2.1
abbrev xb (X : q_Cx) : Nat := X.2.2.2.2.1
abbrev xn (X : q_Cx) : Nat := X.2.2.2.2.2
def q_fv (X : q_Cx) (σ : Sg) (o k : Nat) (r : Option (Option Nat)) : Value := match r with
  | none => .int (σ o k)
  | some none => .null
  | some (some t) => .ref (xa X t)
/-- a long in two cells -/
def q_hi (v : Int64) : Int32 := Int32.ofBitVec (v.toBitVec.extractLsb' 32 32)
def q_lo (v : Int64) : Int32 := Int32.ofBitVec (v.toBitVec.extractLsb' 0 32)
def q_jn (h l : Int32) : Int64 := Int64.ofBitVec (h.toBitVec ++ l.toBitVec)
def q_lg (σ : Sg) (o k : Nat) : Int64 := q_jn (σ o (2 * k)) (σ o (2 * k + 1))
def q_wrl (σ : Sg) (o k : Nat) (v : Int64) : Sg := q_wr (q_wr σ o (2 * k) (q_hi v)) o (2 * k + 1) (q_lo v)
theorem q_hl (v : Int64) : q_jn (q_hi v) (q_lo v) = v := by
  have h : (v.toBitVec.extractLsb' 32 32 ++ v.toBitVec.extractLsb' 0 32 : BitVec 64) = v.toBitVec := by
    apply BitVec.eq_of_getLsbD_eq
    intro i hi
    rw [BitVec.getLsbD_append]
    by_cases h : i < 32
    · simp [BitVec.getLsbD_extractLsb', h]
    · have h2 : i - 32 < 32 := by omega
      have h3 : 32 + (i - 32) = i := by omega
      simp [BitVec.getLsbD_extractLsb', h, h2, h3]
  show Int64.ofBitVec (v.toBitVec.extractLsb' 32 32 ++ v.toBitVec.extractLsb' 0 32) = v
  exact congrArg Int64.ofBitVec h
theorem q_lg_wrl (σ : Sg) (o k : Nat) (v : Int64) : q_lg (q_wrl σ o k v) o k = v := by
  have e0 : q_wrl σ o k v o (2 * k) = q_hi v := by simp [q_wrl, q_wr, upd, show 2 * k ≠ 2 * k + 1 by omega]
  have e1 : q_wrl σ o k v o (2 * k + 1) = q_lo v := by simp [q_wrl, q_wr, upd]
  rw [q_lg, e0, e1, q_hl]
theorem q_lg_wrl_ne (σ : Sg) (o k j : Nat) (v : Int64) (h : j ≠ k) : q_lg (q_wrl σ o k v) o j = q_lg σ o j := by
  have e0 : q_wrl σ o k v o (2 * j) = σ o (2 * j) := by simp [q_wrl, q_wr, upd, show 2 * j ≠ 2 * k + 1 by omega, show 2 * j ≠ 2 * k by omega]
  have e1 : q_wrl σ o k v o (2 * j + 1) = σ o (2 * j + 1) := by simp [q_wrl, q_wr, upd, show 2 * j + 1 ≠ 2 * k + 1 by omega, show 2 * j ≠ 2 * k by omega, show 2 * j + 1 ≠ 2 * k by omega]
  rw [q_lg, e0, e1, q_lg]
theorem q_wrl_ne {σ : Sg} {o o' k : Nat} {v : Int64} (h : o' ≠ o) : q_wrl σ o k v o' = σ o' := by simp [q_wrl, q_wr, h]
theorem q_lg_clr (σ : Sg) (o k : Nat) : q_lg (q_clr σ o) o k = 0 := by
  have e : ∀ j, q_clr σ o o j = 0 := fun j => by simp [q_clr]
  rw [q_lg, e, e]
  decide
theorem q_lg_o {σ σ' : Sg} {o : Nat} (h : σ' o = σ o) (k : Nat) : q_lg σ' o k = q_lg σ o k := by rw [q_lg, q_lg, h]
def q_cell (X : q_Cx) (σ : Sg) (o : Nat) (k : q_Kd) : va_E := match k with
  | .inl (false, n) => .inl (xI X, n, .inl (σ o))
  | .inl (true, n) => .inl (xZ X, n, .inr (.inl (q_lg σ o)))
  | .inr (c, fs) => .inr (c, fs.mapIdx (fun k r => q_fv X σ o k r))
def q_W (X : q_Cx) (Λ : q_Lay) (σ : Sg) : va_W := Λ.mapIdx (fun o k => (xa X o, q_cell X σ o k))
def q_A (X : q_Cx) : Nat → Prop := fun q => xb X ≤ q
def q_FX (X : q_Cx) (U : State) : Prop := va_K (xD X) vwCl [(xI X, .int), (xZ X, .long)] U ∧ (∀ q ∈ q_nests, va_Nw (.methodLinkNest q.1 q.2.1 q.2.2 "CroquetLawn") U) ∧ ∀ o, o < 64 → xa X o = xb X + o
def q_ST (X : q_Cx) (σ : Sg) (U : State) (H : Heap) : Prop := va_T .int (xa X 105) (xn X) (fun i => .int (σ 105 i)) (q_A X) U H
def q_INV (X : q_Cx) (Λ : q_Lay) (σ : Sg) (U : State) : Prop := va_P (xD X) vwCl (q_W X Λ σ) U.heap ∧ U.heap.size = xb X + Λ.length ∧ Λ.length ≤ 64 ∧ q_FX X U ∧ q_ST X σ U U.heap
abbrev q_Mt : Type := MethodName × ByteArray × Nat × Option FieldType × Room
/-- a method's answer; a long one stands in the cells 200, 0 and 1 -/
def q_rv (t : Option FieldType) (σ : Sg) (r : Int32) : Option Value := match t with
  | none => none
  | some .long => some (.long (q_lg σ 200 0))
  | some _ => some (.int r)
def q_ws (M : q_Mt) : List Cond := Cond.code M.1 M.2.1 M.2.2.1 M.2.2.2.1 :: lw_gd
def q_QE (X : q_Cx) (Λe : q_Lay) (M : q_Mt) (E : Rs) : Array Value → State → Outcome → State → Prop := fun _ st oc t => ∃ (σ' : Sg) (r : Int32), E = some (σ', r) ∧ oc = .returned (q_rv M.2.2.2.1 σ' r) ∧ q_INV X Λe σ' t ∧ va_F (q_A X) st t
def q_Ex (X : q_Cx) (M : q_Mt) (Λ Λe : q_Lay) (args : List Value) (σ : Sg) (E : Rs) : Prop := Met (xl X) M.1 (q_ws M) M.2.2.2.2 (va_Pc args (fun U => (∃ x, E = some x) ∧ q_INV X Λ σ U)) (q_QE X Λe M E) M.2.2.2.2.cells M.2.2.2.2.slots (q_A X)
def q_MC (X : q_Cx) (M : q_Mt) (p : Program) (s : State) (m : MethodId) (args : Array Value) (meth : Method) (c : Code) : Prop := p.tables.exec = Jvm.exec ∧ c.code = M.2.1 ∧ meth.sig.returnType = M.2.2.2.1 ∧ c.maxLocals = M.2.2.1 ∧ s.vm.findClass M.1.cls = some m.cls ∧ (∀ w ∈ lw_gd, w.before args s = true) ∧ meth.locks = false ∧ (M.1.name = "<init>" → meth.name = "<init>") ∧ q_FX X s
abbrev q_Fin : Type := Rs → List Frame → Array Value → State → State → Prop
def q_QM (X : q_Cx) (Λe : q_Lay) (M : q_Mt) : q_Fin := fun E below args s => MQ below (q_QE X Λe M E) args s M.2.2.2.2.cells M.2.2.2.2.slots (q_A X)
def q_G (X : q_Cx) (M : q_Mt) (Q : q_Fin) (ph : q_Lay × Nat × Nat) (σ : Sg) (pc : Nat) (l : List (Nat × Value)) (st : List Value) (E : Rs) : Prop :=
  (∃ x, E = some x) → ∀ (p : Program) (e : Env) (s : State) (m : MethodId) (args : Array Value) (below : List Frame) (meth : Method) (c : Code) (H : Heap) (locs : List Loc) (ls : Array Slot), q_MC X M p s m args meth c →
    va_P (xD X) vwCl (q_W X ph.1 σ) H → H.size = xb X + ph.1.length → ph.1.length ≤ 64 → q_ST X σ s s.heap → va_S (q_A X) s.heap H locs → lv_has ls M.2.2.1 l →
    W p (xl X) e M.2.2.2.2 s m args below meth c H locs ph.2.1 ph.2.2 (Q E below args s) (F0 m pc ls st)
/-! the world -/
theorem q_Wget {X : q_Cx} {Λ : q_Lay} {σ : Sg} {o : Nat} {k : q_Kd} (h : Λ[o]? = some k) : (q_W X Λ σ)[o]? = some (xa X o, q_cell X σ o k) := by
  simp [q_W, h]
theorem q_Wlen (X : q_Cx) (Λ : q_Lay) (σ : Sg) : (q_W X Λ σ).length = Λ.length := by simp [q_W]
theorem q_Wat {X : q_Cx} {Λ : q_Lay} {σ : Sg} {o : Nat} {q : Nat × va_E} (h : (q_W X Λ σ)[o]? = some q) : o < Λ.length ∧ q.1 = xa X o := by
  have hl : o < (q_W X Λ σ).length := (List.getElem?_eq_some_iff.mp h).1
  rw [q_Wlen] at hl
  refine ⟨hl, ?_⟩
  rw [q_Wget (List.getElem?_eq_getElem hl)] at h
  exact (congrArg Prod.fst (Option.some.inj h)).symm
theorem q_D {X : q_Cx} {Λ : q_Lay} {σ : Sg} (ha : ∀ o, o < 64 → xa X o = xb X + o) (hl : Λ.length ≤ 64) : va_D (q_A X) (q_W X Λ σ) := by
  refine ⟨fun i j p q hi hj hpq => ?_, fun k q hk => ?_⟩
  · obtain ⟨a1, a2⟩ := q_Wat hi
    obtain ⟨b1, b2⟩ := q_Wat hj
    have h1 := ha i (by omega)
    have h2 := ha j (by omega)
    omega
  · obtain ⟨a1, a2⟩ := q_Wat hk
    have h1 := ha k (by omega)
    show xb X ≤ q.1
    omega
theorem q_wr_ne {σ : Sg} {o o' k : Nat} {v : Int32} (h : o' ≠ o) : q_wr σ o k v o' = σ o' := by simp [q_wr, h]
theorem q_cell_ne {X : q_Cx} {σ σ' : Sg} {o : Nat} {k : q_Kd} (h : σ' o = σ o) : q_cell X σ' o k = q_cell X σ o k := by
  rcases k with ⟨z, n⟩ | ⟨c, fs⟩
  · cases z with
    | false => simp [q_cell, h]
    | true =>
      have e : q_lg σ' o = q_lg σ o := funext (fun k => q_lg_o h k)
      simp [q_cell, e]
  · simp only [q_cell]
    congr 2
    apply List.ext_getElem?
    intro i
    simp only [List.getElem?_mapIdx]
    cases fs[i]? with
    | none => rfl
    | some r => rcases r with _ | _ | t <;> simp [q_fv, h]
theorem q_Wset {X : q_Cx} {Λ Λ' : q_Lay} {σ σ' : Sg} {o : Nat} {e : va_E} {k' : q_Kd} (hl : Λ' = Λ.set o k') (ho : o < Λ.length) (he : q_cell X σ' o k' = e) (hn : ∀ o', o' ≠ o → σ' o' = σ o') : (q_W X Λ σ).set o (xa X o, e) = q_W X Λ' σ' := by
  subst hl
  subst he
  apply List.ext_getElem?
  intro i
  by_cases hi : i = o
  · subst hi
    rw [List.getElem?_set_self (by rw [q_Wlen]; exact ho), q_Wget (k := k') (by simp [ho])]
  · rw [List.getElem?_set_ne (Ne.symm hi)]
    simp only [q_W, List.getElem?_mapIdx, List.getElem?_set_ne (Ne.symm hi)]
    cases Λ[i]? with
    | none => rfl
    | some k => simp [q_cell_ne (hn i hi)]
theorem q_set_self {Λ : q_Lay} {o : Nat} {k : q_Kd} (h : Λ[o]? = some k) : Λ = Λ.set o k := by
  apply List.ext_getElem?
  intro i
  by_cases hi : i = o
  · subst hi
    rw [List.getElem?_set_self (List.getElem?_eq_some_iff.mp h).1, h]
  · rw [List.getElem?_set_ne (Ne.symm hi)]
theorem q_fset {X : q_Cx} {σ : Sg} {o k ci : Nat} {fs : List (Option (Option Nat))} {v : Int32} (hk : fs[k]? = some none) : q_cell X (q_wr σ o k v) o (.inr (ci, fs)) = .inr (ci, (fs.mapIdx (fun k r => q_fv X σ o k r)).set k (.int v)) := by
  simp only [q_cell]
  congr 2
  apply List.ext_getElem?
  intro i
  have hl := (List.getElem?_eq_some_iff.mp hk).1
  by_cases hi : i = k
  · subst hi
    rw [List.getElem?_set_self (by simpa using hl)]
    simp [hk, q_fv, q_wr, upd]
  · rw [List.getElem?_set_ne (Ne.symm hi)]
    simp only [List.getElem?_mapIdx]
    cases fs[i]? with
    | none => rfl
    | some r => rcases r with _ | _ | t <;> simp [q_fv, q_wr, upd, hi]
theorem q_rset {X : q_Cx} {σ : Sg} {o k ci t : Nat} {fs : List (Option (Option Nat))} (hk : k < fs.length) : q_cell X σ o (.inr (ci, fs.set k (some (some t)))) = .inr (ci, (fs.mapIdx (fun k r => q_fv X σ o k r)).set k (.ref (xa X t))) := by
  simp only [q_cell]
  congr 2
  apply List.ext_getElem?
  intro i
  by_cases hi : i = k
  · subst hi
    rw [List.getElem?_set_self (by simpa using hk)]
    simp [hk, q_fv]
  · rw [List.getElem?_set_ne (Ne.symm hi)]
    simp [List.getElem?_set_ne (Ne.symm hi)]
theorem q_aset {X : q_Cx} {σ : Sg} {o n i : Nat} {v : Int32} : q_cell X (q_wr σ o i v) o (.inl (false, n)) = .inl (xI X, n, .inl (upd (σ o) i v)) := by
  simp [q_cell, q_wr]
theorem q_lset {X : q_Cx} {σ : Sg} {o n i : Nat} {v : Int64} : q_cell X (q_wrl σ o i v) o (.inl (true, n)) = .inl (xZ X, n, .inr (.inl (vp_updL (q_lg σ o) i v))) := by
  have e : q_lg (q_wrl σ o i v) o = vp_updL (q_lg σ o) i v := by
    funext k
    by_cases h : k = i
    · subst h
      rw [q_lg_wrl]
      simp [vp_updL]
    · rw [q_lg_wrl_ne σ o i k v h]
      simp [vp_updL, h]
  simp [q_cell, e]
theorem q_clr_ne {σ : Sg} {o o' : Nat} (h : o' ≠ o) : q_clr σ o o' = σ o' := by simp [q_clr, h]
theorem q_Wpush {X : q_Cx} {Λ : q_Lay} {σ : Sg} {k : q_Kd} {e : va_E} (he : q_cell X (q_clr σ Λ.length) Λ.length k = e) : q_W X Λ σ ++ [(xa X Λ.length, e)] = q_W X (Λ ++ [k]) (q_clr σ Λ.length) := by
  subst he
  apply List.ext_getElem?
  intro i
  by_cases hi : i < Λ.length
  · rw [List.getElem?_append_left (by rw [q_Wlen]; exact hi), q_Wget (List.getElem?_eq_getElem hi), q_Wget (k := Λ[i]) (by rw [List.getElem?_append_left hi]; exact List.getElem?_eq_getElem hi), q_cell_ne (q_clr_ne (by omega))]
  · by_cases h2 : i = Λ.length
    · subst h2
      rw [List.getElem?_append_right (by rw [q_Wlen]; omega), q_Wlen, q_Wget (k := k) (by simp)]
      simp
    · rw [List.getElem?_eq_none (by simp [q_Wlen]; omega), List.getElem?_eq_none (by simp [q_Wlen]; omega)]
theorem q_STw {X : q_Cx} {σ σ' : Sg} {U : State} {H : Heap} (h : q_ST X σ U H) (hn : ∀ o, o = 105 → σ' o = σ o) : q_ST X σ' U H := by
  show va_T .int (xa X 105) (xn X) (fun i => .int (σ' 105 i)) (q_A X) U H
  rw [hn 105 rfl]
  exact h
theorem q_ST.moved {X : q_Cx} {σ : Sg} {u U : State} {H H1 : Heap} (hvm : u.vm.Alike U.vm) (hk : ∀ a : Nat, a < H.size → ¬ q_A X a → H1[a]? = H[a]?) (h : q_ST X σ u H) : q_ST X σ U H1 :=
  ((show va_T .int (xa X 105) (xn X) (fun i => .int (σ 105 i)) (q_A X) u H from h).moved hvm).kept hk
theorem q_FX.moved {X : q_Cx} {u U : State} (hW : u.WarmedH U.vm) (h : q_FX X u) : q_FX X U := ⟨va_K.moved hW.alike h.1, fun q hq => va_Nw.warmM hW (h.2.1 q hq), h.2.2⟩
theorem q_FX.same {X : q_Cx} {u U : State} (hv : u.vm = U.vm) (h : q_FX X u) : q_FX X U := ⟨va_K.moved (hv ▸ Vm.Alike.refl u.vm) h.1, fun q hq => va_Nw.same rfl hv (h.2.1 q hq), h.2.2⟩
