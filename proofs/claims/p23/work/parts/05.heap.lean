/-! THE LAYER's RULES: fields, arrays, statics, new cells -/
def q_FL (own : String) (idx ci : Nat) (C : String) (T : u_T) (N k : Nat) : Prop := Cond.fieldLink own idx (T k).1 (T k).2.1 (T k).2.2.1 ∈ lw_gd ∧ k < N ∧ vwCl[ci]? = some (C, T, N) ∧ ∀ w ∈ u_ws C T N, w ∈ lw_gd
def q_PL (C : String) (T : u_T) (N k : Nat) (ty : FieldType) (fin : Bool) : Prop := (T k).2.2.2 = fin ∧ parseFieldDescriptor (T k).2.2.1 = some ty ∧ (∃ ty0 : Nat → FieldType, ∀ k, k < N → parseFieldDescriptor (T k).2.2.1 = some (ty0 k)) ∧ ∀ a, a < N → ∀ b, b < N → a ≠ b → (T a).2.1 ≠ (T b).2.1
def q_RA (X : q_Cx) (Λ : q_Lay) (a n : Nat) : Prop := Λ[a]? = some (.inl (false, n)) ∨ (a = 105 ∧ n = xn X)
abbrev q_oob (i : Int32) (n : Nat) : Prop := i < 0 ∨ n ≤ i.toNatClampNeg
section QS
variable {p : Program} {l : Launch} {e : Env} {R : Room} {s : State} {m : MethodId} {args : Array Value} {below : List Frame} {meth : Method} {c : Code} {H : Heap} {locs : List Loc} {cells slots : Nat} {Q : State → Prop}
variable {cc : ByteArray} {pc : Nat} {ls : Array Slot} {rest : List Value} {D : va_G} {cl : List vw_C} {A : Nat → Prop} {a : Nat} {ws : va_W} {tys : List (ClassId × FieldType)} {H0 : Heap}
/-- va_put, va_putF, va_iast, va_zast with the heap's size told -/
theorem q_put (hexec : p.tables.exec = Jvm.exec) (hb : c.code = cc) {own C : String} {T : u_T} {N ci index : Nat} {Ts : List Cond} (hts : ∀ w ∈ Ts, w.before args s = true) (hin : ∀ w ∈ u_ws C T N, w ∈ Ts) (ty0 : Nat → FieldType) (hty : ∀ k, k < N → parseFieldDescriptor (T k).2.2.1 = some (ty0 k)) (hnm : ∀ a, a < N → ∀ b, b < N → a ≠ b → (T a).2.1 ≠ (T b).2.1) (hown : s.vm.findClass own = some m.cls) (hK : va_K D cl tys s) (hP : va_P D cl ws H) (hD : va_D A ws) (hS0 : va_S A H0 H locs) (q0 : Nat) {fs : List Value} (he : ws[q0]? = some (a, .inr (ci, fs))) (hc : cl[ci]? = some (C, T, N)) (k : Nat) (hk : k < N) (hlink : (Cond.fieldLink own index (T k).1 (T k).2.1 (T k).2.2.1).before args s = true) (hfin : (T k).2.2.2 = false) {ty : FieldType} {v : Value} (hd : parseFieldDescriptor (T k).2.2.1 = some ty) (hn : narrow ty v = v) (hfit : fits ty v = true) (hl : k < fs.length)
    (hdg : decode cc pc = .ok (.putfield index, 3)) (kk : ∀ (H1 : Heap) (locs1 : List Loc), H1.size = H.size → va_P D cl (ws.set q0 (a, .inr (ci, fs.set k v))) H1 → va_S A H0 H1 locs1 → W p l e R s m args below meth c H1 locs1 cells slots Q (F0 m (pc + 3) ls rest)) : W p l e R s m args below meth c H locs cells slots Q (F0 m pc ls (v :: .ref a :: rest)) := by
  have hap := va_apart (own := own) hts hin ty0 hty hnm hK hc
  obtain ⟨r, h1, cell, q1, q2, q3, q4⟩ := hP q0 _ he
  have hr : r = (C, T, N) := Option.some.inj (h1.symm.trans hc)
  subst hr
  obtain ⟨hS, hfc, kC, hkC, hkind⟩ := hK.1 ci _ hc
  obtain ⟨cf, kf, fi, f, hi, hsl⟩ := hS k hk
  have hlay := hts _ (hin _ (u_in_lay hk))
  unfold u_lay at hlay
  rw [if_neg (by rw [hfin]; decide)] at hlay
  have hst := (u_facts hfc hkC (u_lays hts hin hk) hi).1
  have h6 := u_store hfc hkC hkind hlay hi hd hn hfit
  refine W.putK hexec hb (f := f) ⟨hown, hlink, ⟨_, _, _, hi⟩, hst⟩ (by rw [q2]; exact h6) q1 q3 (by rw [hsl]; exact k2_hasslot (q4 k hk)) rfl rfl hdg fun H' e1 e2 e3 => ?_
  rw [hsl] at e1 ⊢
  exact kk H' _ e2 (hP.set hD he ⟨_, hc, t_OB.to (V := updV (vp_V fs) k v) ⟨_, e1, q2, q3, t_set q4 hap hk v⟩ (fun j _ => vp_updV_set hl v j)⟩ e3) (hS0.put e2 e3 (hD.2 q0 _ he))
theorem q_putF (hexec : p.tables.exec = Jvm.exec) (hb : c.code = cc) {own C : String} {T : u_T} {N ci index : Nat} {Ts : List Cond} (hts : ∀ w ∈ Ts, w.before args s = true) (hin : ∀ w ∈ u_ws C T N, w ∈ Ts) (ty0 : Nat → FieldType) (hty : ∀ k, k < N → parseFieldDescriptor (T k).2.2.1 = some (ty0 k)) (hnm : ∀ a, a < N → ∀ b, b < N → a ≠ b → (T a).2.1 ≠ (T b).2.1) (hown : s.vm.findClass own = some m.cls) (hK : va_K D cl tys s) (hP : va_P D cl ws H) (hD : va_D A ws) (hS0 : va_S A H0 H locs) (q0 : Nat) {fs : List Value} (he : ws[q0]? = some (a, .inr (ci, fs))) (hc : cl[ci]? = some (C, T, N)) (k : Nat) (hk : k < N) (hlink : (Cond.fieldLink own index (T k).1 (T k).2.1 (T k).2.2.1).before args s = true) (hfin : (T k).2.2.2 = true) (hin2 : meth.name = "<init>") (hdecl : (T k).1 = own) {ty : FieldType} {v : Value} (hd : parseFieldDescriptor (T k).2.2.1 = some ty) (hn : narrow ty v = v) (hfit : fits ty v = true) (hl : k < fs.length)
    (hdg : decode cc pc = .ok (.putfield index, 3)) (kk : ∀ (H1 : Heap) (locs1 : List Loc), H1.size = H.size → va_P D cl (ws.set q0 (a, .inr (ci, fs.set k v))) H1 → va_S A H0 H1 locs1 → W p l e R s m args below meth c H1 locs1 cells slots Q (F0 m (pc + 3) ls rest)) : W p l e R s m args below meth c H locs cells slots Q (F0 m pc ls (v :: .ref a :: rest)) := by
  have hap := va_apart (own := own) hts hin ty0 hty hnm hK hc
  obtain ⟨r, h1, cell, q1, q2, q3, q4⟩ := hP q0 _ he
  have hr : r = (C, T, N) := Option.some.inj (h1.symm.trans hc)
  subst hr
  obtain ⟨hS, hfc, kC, hkC, hkind⟩ := hK.1 ci _ hc
  obtain ⟨cf, kf, fi, f, hi, hsl⟩ := hS k hk
  have hlay := hts _ (hin _ (u_in_lay hk))
  unfold u_lay at hlay
  rw [if_pos hfin] at hlay
  have hst := (u_facts hfc hkC (u_lays hts hin hk) hi).1
  have hcf : m.cls = cf := by
    obtain ⟨_, _, c', _, _, _, -, -, hf', -, -, -, hown2, -⟩ := Cond.laysFinal_spec hlay
    have e1 : c' = cf := by have := hi.symm.trans hf'; simp at this; exact this.1.symm
    rw [hdecl] at hown2
    rw [← e1]; exact Option.some.inj (hown.symm.trans hown2)
  have h6 := u_fits hfc hkC hkind (Or.inr hlay) hi hd hn hfit
  refine W.putFinK hexec hb hown hlink hi hst hcf hin2 (by rw [q2]; exact h6) q1 q3 (by rw [hsl]; exact k2_hasslot (q4 k hk)) rfl rfl hdg fun H' e1 e2 e3 => ?_
  rw [hsl] at e1 ⊢
  exact kk H' _ e2 (hP.set hD he ⟨_, hc, t_OB.to (V := updV (vp_V fs) k v) ⟨_, e1, q2, q3, t_set q4 hap hk v⟩ (fun j _ => vp_updV_set hl v j)⟩ e3) (hS0.put e2 e3 (hD.2 q0 _ he))
theorem q_iast (hexec : p.tables.exec = Jvm.exec) (hb : c.code = cc) (hK : va_K D cl tys s) (hP : va_P D cl ws H) (hD : va_D A ws) (hS : va_S A H0 H locs) (q0 t0 : Nat) {cA : ClassId} {n : Nat} {f : Nat → Int32} (ha : ws[q0]? = some (a, .inl (cA, n, .inl f))) (ht : tys[t0]? = some (cA, .int)) {i : Int32} {x : Int32} (hin : vp_in i n) (hdg : decode cc pc = .ok (.iastore, 1))
    (kk : ∀ (H1 : Heap) (locs1 : List Loc), H1.size = H.size → va_P D cl (ws.set q0 (a, .inl (cA, n, .inl (upd f i.toNatClampNeg x)))) H1 → va_S A H0 H1 locs1 → W p l e R s m args below meth c H1 locs1 cells slots Q (F0 m (pc + 1) ls rest)) : W p l e R s m args below meth c H locs cells slots Q (F0 m pc ls (.int x :: .int i :: .ref a :: rest)) := by
  refine W.iast hexec hb (hP q0 _ ha) ((hK.2 t0 _ ht).1 n (fun j => .int (f j))) (fun q => by cases q) (by show ¬ (i < 0 ∨ (arrV _ _ _).slots.size ≤ _); rw [arrV_size]; exact hin) rfl rfl hdg fun H1 e z oq => ?_
  refine kk H1 _ z (hP.set hD ha ?_ oq) (hS.put z oq (hD.2 q0 _ ha))
  show H1[a]? = some (vp_cell _ _)
  rw [e]
  rw [vp_cell_i, vp_cell_i, arrV_store]
  congr 2
  funext q
  by_cases hq : q = i.toNatClampNeg
  · subst hq
    simp [updV, upd]
  · simp [updV, upd, hq]
theorem q_last (hexec : p.tables.exec = Jvm.exec) (hb : c.code = cc) (hK : va_K D cl tys s) (hP : va_P D cl ws H) (hD : va_D A ws) (hS : va_S A H0 H locs) (q0 t0 : Nat) {cA : ClassId} {n : Nat} {f : Nat → Int64} (ha : ws[q0]? = some (a, .inl (cA, n, .inr (.inl f)))) (ht : tys[t0]? = some (cA, .long)) {i : Int32} {x : Int64} (hin : vp_in i n) (hdg : decode cc pc = .ok (.lastore, 1))
    (kk : ∀ (H1 : Heap) (locs1 : List Loc), H1.size = H.size → va_P D cl (ws.set q0 (a, .inl (cA, n, .inr (.inl (vp_updL f i.toNatClampNeg x))))) H1 → va_S A H0 H1 locs1 → W p l e R s m args below meth c H1 locs1 cells slots Q (F0 m (pc + 1) ls rest)) : W p l e R s m args below meth c H locs cells slots Q (F0 m pc ls (.long x :: .int i :: .ref a :: rest)) := by
  refine W.last hexec hb (hP q0 _ ha) ((hK.2 t0 _ ht).1 n (fun j => .long (f j))) (fun q => by cases q) (by show ¬ (i < 0 ∨ (arrV _ _ _).slots.size ≤ _); rw [arrV_size]; exact hin) rfl rfl hdg fun H1 e z oq => ?_
  refine kk H1 _ z (hP.set hD ha ?_ oq) (hS.put z oq (hD.2 q0 _ ha))
  show H1[a]? = some (vp_cell _ _)
  rw [e]
  rw [vp_cell_l, vp_cell_l, arrV_store]
  congr 2
  funext q
  by_cases hq : q = i.toNatClampNeg
  · subst hq
    simp [updV, vp_updL]
  · simp [updV, vp_updL, hq]
end QS
section QH
variable {X : q_Cx} {M : q_Mt} {Q : q_Fin} {ph : q_Lay × Nat × Nat} {σ : Sg} {pc pc' : Nat} {l l' : List (Nat × Value)} {st rest : List Value} {E E1 E2 : Rs}
variable {idx ci N k o : Nat} {C : String} {T : u_T} {fs : List (Option (Option Nat))}
theorem gq_geti (d : decode M.2.1 pc = .ok (.getfield idx, 3)) (hp : pc + 3 = pc') (f : q_FL M.1.cls idx ci C T N k) (ho : ph.1[o]? = some (.inr (ci, fs))) (hf : fs[k]? = some none) (kk : q_G X M Q ph σ pc' l (.int (σ o k) :: st) E) : q_G X M Q ph σ pc l (.ref (xa X o) :: st) E := by
  subst hp
  obtain ⟨f1, f2, f3, f4⟩ := f
  intro hE p e s m args below meth c H locs ls V hP hz h6 hT hS h
  exact va_get V.1 V.2.1 V.2.2.2.2.2.1 f4 V.2.2.2.2.1 V.2.2.2.2.2.2.2.2.1 hP o (q_Wget ho) f3 k f2 (V.2.2.2.2.2.1 _ f1) (fun _ h9 => h9) (v := .int (σ o k)) (by simp [hf, q_fv]) d (kk hE p e s m args below meth c H locs ls V hP hz h6 hT hS h)
theorem gq_getr {t : Nat} (d : decode M.2.1 pc = .ok (.getfield idx, 3)) (hp : pc + 3 = pc') (f : q_FL M.1.cls idx ci C T N k) (ho : ph.1[o]? = some (.inr (ci, fs))) (hf : fs[k]? = some (some (some t))) (kk : q_G X M Q ph σ pc' l (.ref (xa X t) :: st) E) : q_G X M Q ph σ pc l (.ref (xa X o) :: st) E := by
  subst hp
  obtain ⟨f1, f2, f3, f4⟩ := f
  intro hE p e s m args below meth c H locs ls V hP hz h6 hT hS h
  exact va_get V.1 V.2.1 V.2.2.2.2.2.1 f4 V.2.2.2.2.1 V.2.2.2.2.2.2.2.2.1 hP o (q_Wget ho) f3 k f2 (V.2.2.2.2.2.1 _ f1) (fun _ h9 => h9) (v := .ref (xa X t)) (by simp [hf, q_fv]) d (kk hE p e s m args below meth c H locs ls V hP hz h6 hT hS h)
theorem gq_puti {ty : FieldType} {v : Int32} (d : decode M.2.1 pc = .ok (.putfield idx, 3)) (hp : pc + 3 = pc') (f : q_FL M.1.cls idx ci C T N k) (g : q_PL C T N k ty false) (ho : ph.1[o]? = some (.inr (ci, fs))) (hf : fs[k]? = some none) (hn : narrow ty (.int v) = .int v) (hfit : fits ty (.int v) = true) (kk : q_G X M Q ph (q_wr σ o k v) pc' l st E) : q_G X M Q ph σ pc l (.int v :: .ref (xa X o) :: st) E := by
  subst hp
  obtain ⟨f1, f2, f3, f4⟩ := f
  obtain ⟨g1, g2, ⟨ty0, g3⟩, g4⟩ := g
  intro hE p e s m args below meth c H locs ls V hP hz h6 hT hS h
  have hol := (List.getElem?_eq_some_iff.mp ho).1
  have hkl := (List.getElem?_eq_some_iff.mp hf).1
  refine q_put V.1 V.2.1 V.2.2.2.2.2.1 f4 ty0 g3 g4 V.2.2.2.2.1 V.2.2.2.2.2.2.2.2.1 hP (q_D V.2.2.2.2.2.2.2.2.2.2 h6) hS o (q_Wget ho) f3 k f2 (V.2.2.2.2.2.1 _ f1) g1 g2 hn hfit (by simpa using hkl) d (fun H1 locs1 hz1 hP1 hS1 => ?_)
  rw [q_Wset (σ' := q_wr σ o k v) (q_set_self ho) hol (q_fset hf) (fun o' h => q_wr_ne h)] at hP1
  exact kk hE p e s m args below meth c H1 locs1 ls V hP1 (hz1.trans hz) h6 (q_STw hT (fun o' h => q_wr_ne (by omega))) hS1 h
theorem gq_putr {ty : FieldType} {t : Nat} {r : Option (Option Nat)} {Λ : q_Lay} {cs ns : Nat} (d : decode M.2.1 pc = .ok (.putfield idx, 3)) (hp : pc + 3 = pc') (f : q_FL M.1.cls idx ci C T N k) (g : q_PL C T N k ty true) (hi : M.1.name = "<init>") (hd : (T k).1 = M.1.cls) (ho : Λ[o]? = some (.inr (ci, fs))) (hf : fs[k]? = some r) (hn : narrow ty (.ref (xa X t)) = .ref (xa X t)) (hfit : fits ty (.ref (xa X t)) = true) {Λ' : q_Lay} (hΛ : Λ.set o (.inr (ci, fs.set k (some (some t)))) = Λ') (kk : q_G X M Q (Λ', cs, ns) σ pc' l st E) : q_G X M Q (Λ, cs, ns) σ pc l (.ref (xa X t) :: .ref (xa X o) :: st) E := by
  subst hp
  subst hΛ
  obtain ⟨f1, f2, f3, f4⟩ := f
  obtain ⟨g1, g2, ⟨ty0, g3⟩, g4⟩ := g
  intro hE p e s m args below meth c H locs ls V hP hz h6 hT hS h
  have hol := (List.getElem?_eq_some_iff.mp ho).1
  have hkl := (List.getElem?_eq_some_iff.mp hf).1
  refine q_putF V.1 V.2.1 V.2.2.2.2.2.1 f4 ty0 g3 g4 V.2.2.2.2.1 V.2.2.2.2.2.2.2.2.1 hP (q_D V.2.2.2.2.2.2.2.2.2.2 h6) hS o (q_Wget ho) f3 k f2 (V.2.2.2.2.2.1 _ f1) g1 (V.2.2.2.2.2.2.2.1 hi) hd g2 hn hfit (by simpa using hkl) d (fun H1 locs1 hz1 hP1 hS1 => ?_)
  rw [q_Wset (σ' := σ) rfl hol (q_rset hkl) (fun o' h => rfl)] at hP1
  exact kk hE p e s m args below meth c H1 locs1 ls V hP1 (by rw [hz1, hz]; simp) (by simpa using h6) hT hS1 h
/-- a final int field in a constructor: none here; a boolean field: by gq_puti -/
theorem gq_iald {a n : Nat} {i : Int32} (d : decode M.2.1 pc = .ok (.iaload, 1)) (hp : pc + 1 = pc') (ha : q_RA X ph.1 a n) (kk : ¬ q_oob i n → q_G X M Q ph σ pc' l (.int (σ a i.toNatClampNeg) :: st) E) : q_G X M Q ph σ pc l (.int i :: .ref (xa X a) :: st) (if q_oob i n then none else E) := by
  subst hp
  refine gq_ite (fun _ => gq_none) (fun hb => ?_)
  intro hE p e s m args below meth c H locs ls V hP hz h6 hT hS h
  have k2 := kk hb hE p e s m args below meth c H locs ls V hP hz h6 hT hS h
  rcases ha with ha | ⟨rfl, rfl⟩
  · exact va_iald V.1 V.2.1 V.2.2.2.2.2.2.2.2.1 hP a 0 (q_Wget ha) rfl hb d k2
  · exact va_ti V.1 V.2.1 hT hS hb rfl d k2
theorem gq_lald {a n : Nat} {i : Int32} (d : decode M.2.1 pc = .ok (.laload, 1)) (hp : pc + 1 = pc') (ha : ph.1[a]? = some (.inl (true, n))) (kk : ¬ q_oob i n → q_G X M Q ph σ pc' l (.long (q_lg σ a i.toNatClampNeg) :: st) E) : q_G X M Q ph σ pc l (.int i :: .ref (xa X a) :: st) (if q_oob i n then none else E) := by
  subst hp
  refine gq_ite (fun _ => gq_none) (fun hb => ?_)
  intro hE p e s m args below meth c H locs ls V hP hz h6 hT hS h
  exact va_lald V.1 V.2.1 V.2.2.2.2.2.2.2.2.1 hP a 1 (q_Wget ha) rfl hb d (kk hb hE p e s m args below meth c H locs ls V hP hz h6 hT hS h)
theorem gq_alen {a n : Nat} {v : Int32} (d : decode M.2.1 pc = .ok (.arraylength, 1)) (hp : pc + 1 = pc') (ha : q_RA X ph.1 a n) (hv : Int32.ofNat n = v) (kk : q_G X M Q ph σ pc' l (.int v :: st) E) : q_G X M Q ph σ pc l (.ref (xa X a) :: st) E := by
  subst hp
  subst hv
  intro hE p e s m args below meth c H locs ls V hP hz h6 hT hS h
  have k2 := kk hE p e s m args below meth c H locs ls V hP hz h6 hT hS h
  rcases ha with ha | ⟨rfl, rfl⟩
  · exact va_alen V.1 V.2.1 V.2.2.2.2.2.2.2.2.1 hP a 0 (q_Wget ha) rfl rfl d k2
  · exact va_tlen V.1 V.2.1 hT hS rfl d k2
theorem gq_iast {a n : Nat} {i x : Int32} (d : decode M.2.1 pc = .ok (.iastore, 1)) (hp : pc + 1 = pc') (ha : ph.1[a]? = some (.inl (false, n))) (kk : ¬ q_oob i n → q_G X M Q ph (q_wr σ a i.toNatClampNeg x) pc' l st E) : q_G X M Q ph σ pc l (.int x :: .int i :: .ref (xa X a) :: st) (if q_oob i n then none else E) := by
  subst hp
  refine gq_ite (fun _ => gq_none) (fun hb => ?_)
  intro hE p e s m args below meth c H locs ls V hP hz h6 hT hS h
  have hol := (List.getElem?_eq_some_iff.mp ha).1
  refine q_iast V.1 V.2.1 V.2.2.2.2.2.2.2.2.1 hP (q_D V.2.2.2.2.2.2.2.2.2.2 h6) hS a 0 (q_Wget ha) rfl hb d (fun H1 locs1 hz1 hP1 hS1 => ?_)
  rw [q_Wset (σ' := q_wr σ a i.toNatClampNeg x) (q_set_self ha) hol q_aset (fun o' h => q_wr_ne h)] at hP1
  exact kk hb hE p e s m args below meth c H1 locs1 ls V hP1 (hz1.trans hz) h6 (q_STw hT (fun o' h => q_wr_ne (by omega))) hS1 h
theorem gq_last {a n : Nat} {i : Int32} {x : Int64} (d : decode M.2.1 pc = .ok (.lastore, 1)) (hp : pc + 1 = pc') (ha : ph.1[a]? = some (.inl (true, n))) (kk : ¬ q_oob i n → q_G X M Q ph (q_wrl σ a i.toNatClampNeg x) pc' l st E) : q_G X M Q ph σ pc l (.long x :: .int i :: .ref (xa X a) :: st) (if q_oob i n then none else E) := by
  subst hp
  refine gq_ite (fun _ => gq_none) (fun hb => ?_)
  intro hE p e s m args below meth c H locs ls V hP hz h6 hT hS h
  have hol := (List.getElem?_eq_some_iff.mp ha).1
  refine q_last V.1 V.2.1 V.2.2.2.2.2.2.2.2.1 hP (q_D V.2.2.2.2.2.2.2.2.2.2 h6) hS a 1 (q_Wget ha) rfl hb d (fun H1 locs1 hz1 hP1 hS1 => ?_)
  rw [q_Wset (σ' := q_wrl σ a i.toNatClampNeg x) (q_set_self ha) hol q_lset (fun o' h => q_wrl_ne h)] at hP1
  exact kk hb hE p e s m args below meth c H1 locs1 ls V hP1 (hz1.trans hz) h6 (q_STw hT (fun o' h => q_wrl_ne (by omega))) hS1 h
theorem gq_ldc2 {v : Int64} (d : decode M.2.1 pc = .ok (.ldc2_w idx, 3)) (hp : pc + 3 = pc') (hl : Cond.constantLong M.1.cls idx v ∈ lw_gd) (kk : q_G X M Q ph σ pc' l (.long v :: st) E) : q_G X M Q ph σ pc l st E := by
  subst hp
  intro hE p e s m args below meth c H locs ls V hP hz h6 hT hS h
  exact lv_ldc2 V.1 V.2.1 V.2.2.2.2.1 (V.2.2.2.2.2.1 _ hl) d (kk hE p e s m args below meth c H locs ls V hP hz h6 hT hS h)
end QH
