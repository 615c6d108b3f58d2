section QL
variable {X : q_Cx} {M : q_Mt} {Q : q_Fin} {ph ph' : q_Lay × Nat × Nat} {σ : Sg} {pc pc' : Nat} {l l' : List (Nat × Value)} {st rest : List Value} {E : Rs}
theorem gq_let {x : Int32} {f : Int32 → Rs} (k : ∀ y, q_G X M Q ph σ pc l (.int y :: st) (f y)) : q_G X M Q ph σ pc l (.int x :: st) (q_let x f) := k x
theorem gq_letJ {x : Int64} {f : Int64 → Rs} (k : ∀ y, q_G X M Q ph σ pc l (.long y :: st) (f y)) : q_G X M Q ph σ pc l (.long x :: st) (q_letJ x f) := k x
theorem gq_lets {f : Sg → Rs} (k : ∀ τ, q_G X M Q ph τ pc l st (f τ)) : q_G X M Q ph σ pc l st (q_lets σ f) := k σ
theorem gq_ph (h : ph = ph') (k : q_G X M Q ph' σ pc l st E) : q_G X M Q ph σ pc l st E := h ▸ k
theorem gq_iincl {i j : Nat} {n : Int} {x v : Int32} {f : Int32 → Rs} (d : decode M.2.1 pc = .ok (.iinc i n, 3)) (hp : pc + 3 = pc') (hk : l[j]? = some (i, .int x)) (hn : i < M.2.2.1) (hv : Int32.ofInt n = v) (kk : ∀ y, q_G X M Q ph σ pc' ((i, Value.int y) :: l.filter (fun q => !(q.1 == i) && !(q.1 + 1 == i && q.2.category == 2))) st (f y)) : q_G X M Q ph σ pc l st (q_let (x + v) f) := by
  subst hv
  exact gq_iinc d hp hk rfl hn rfl (kk _)
end QL
def q_LM (own : String) (idx : Nat) (y : MethodName) (b : ByteArray) (n : Nat) : Prop := Cond.methodLink own idx y ∈ lw_gd ∧ Cond.static y ∈ lw_gd ∧ Cond.initialized "java/lang/Math" ∈ lw_gd ∧ Cond.code y b n (some .int) ∈ lw_gd
section QM
variable {X : q_Cx} {M : q_Mt} {Q : q_Fin} {Λ : q_Lay} {cs ns idx : Nat} {σ : Sg} {pc pc' : Nat} {l : List (Nat × Value)} {st : List Value} {E : Rs} {x y : Int32}
theorem gq_mmax (d : decode M.2.1 pc = .ok (.invokestatic idx, 3)) (hp : pc + 3 = pc') (lk : q_LM M.1.cls idx Lib.Math.max.name Lib.Math.max.code 2) (hf : 1 ≤ M.2.2.2.2.frames) (hl : (st.map fun v => v.category).sum + 13 ≤ M.2.2.2.2.locals) (hc : cs ≤ M.2.2.2.2.cells) (hn : ns ≤ M.2.2.2.2.slots) (kk : q_G X M Q (Λ, cs, ns) σ pc' l (.int (if x < y then y else x) :: st) E) : q_G X M Q (Λ, cs, ns) σ pc l (.int y :: .int x :: st) E := by
  subst hp
  intro hE p e s m args below meth c H locs ls V hP hz h6 hT hS h
  exact va_mmax V.1 V.2.1 (V.2.2.2.1.trans h.1.symm) V.2.2.2.2.1 (V.2.2.2.2.2.1 _ lk.1) (V.2.2.2.2.2.1 _ lk.2.1) (V.2.2.2.2.2.1 _ lk.2.2.1) (V.2.2.2.2.2.1 _ lk.2.2.2) hf hl hc hn d (kk hE p e s m args below meth c H locs ls V hP hz h6 hT hS h)
theorem gq_mmin (d : decode M.2.1 pc = .ok (.invokestatic idx, 3)) (hp : pc + 3 = pc') (lk : q_LM M.1.cls idx Lib.Math.min.name Lib.Math.min.code 2) (hf : 1 ≤ M.2.2.2.2.frames) (hl : (st.map fun v => v.category).sum + 13 ≤ M.2.2.2.2.locals) (hc : cs ≤ M.2.2.2.2.cells) (hn : ns ≤ M.2.2.2.2.slots) (kk : q_G X M Q (Λ, cs, ns) σ pc' l (.int (if y < x then y else x) :: st) E) : q_G X M Q (Λ, cs, ns) σ pc l (.int y :: .int x :: st) E := by
  subst hp
  intro hE p e s m args below meth c H locs ls V hP hz h6 hT hS h
  exact va_mmin V.1 V.2.1 (V.2.2.2.1.trans h.1.symm) V.2.2.2.2.1 (V.2.2.2.2.2.1 _ lk.1) (V.2.2.2.2.2.1 _ lk.2.1) (V.2.2.2.2.2.1 _ lk.2.2.1) (V.2.2.2.2.2.1 _ lk.2.2.2) hf hl hc hn d (kk hE p e s m args below meth c H locs ls V hP hz h6 hT hS h)
theorem gq_mabs (d : decode M.2.1 pc = .ok (.invokestatic idx, 3)) (hp : pc + 3 = pc') (lk : q_LM M.1.cls idx Lib.Math.abs.name Lib.Math.abs.code 1) (hf : 1 ≤ M.2.2.2.2.frames) (hl : (st.map fun v => v.category).sum + 13 ≤ M.2.2.2.2.locals) (hc : cs ≤ M.2.2.2.2.cells) (hn : ns ≤ M.2.2.2.2.slots) (kk : q_G X M Q (Λ, cs, ns) σ pc' l (.int (if 0 ≤ x then x else 0 - x) :: st) E) : q_G X M Q (Λ, cs, ns) σ pc l (.int x :: st) E := by
  subst hp
  intro hE p e s m args below meth c H locs ls V hP hz h6 hT hS h
  exact va_mabs V.1 V.2.1 (V.2.2.2.1.trans h.1.symm) V.2.2.2.2.1 (V.2.2.2.2.2.1 _ lk.1) (V.2.2.2.2.2.1 _ lk.2.1) (V.2.2.2.2.2.1 _ lk.2.2.1) (V.2.2.2.2.2.1 _ lk.2.2.2) hf hl hc hn d (kk hE p e s m args below meth c H locs ls V hP hz h6 hT hS h)
end QM
