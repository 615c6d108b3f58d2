/-! THE LAYER's RULES: an instruction, a rule -/
section QR
variable {X : q_Cx} {M : q_Mt} {Q : q_Fin} {ph : q_Lay × Nat × Nat} {σ : Sg} {pc pc' : Nat} {l l' : List (Nat × Value)} {st rest : List Value} {E E1 E2 : Rs}
theorem gq_none : q_G X M Q ph σ pc l st none := fun h => by obtain ⟨x, h⟩ := h; cases h
theorem gq_ite {c : Prop} [Decidable c] (h1 : c → q_G X M Q ph σ pc l st E1) (h2 : ¬ c → q_G X M Q ph σ pc l st E2) : q_G X M Q ph σ pc l st (if c then E1 else E2) := by
  by_cases h : c
  · rw [if_pos h]; exact h1 h
  · rw [if_neg h]; exact h2 h
theorem gq_sub (ks : List Nat) (hl : lv_pick l ks = l') (k : q_G X M Q ph σ pc l' st E) : q_G X M Q ph σ pc l st E := fun hE p e s m args below meth c H locs ls C hP hz h6 hT hS h => k hE p e s m args below meth c H locs ls C hP hz h6 hT hS (lv_sub h ks hl)
theorem gq_pc (h : pc = pc') (k : q_G X M Q ph σ pc' l st E) : q_G X M Q ph σ pc l st E := h ▸ k
theorem gq_iconst {n : Int} {v : Int32} (d : decode M.2.1 pc = .ok (.iconst n, 1)) (hp : pc + 1 = pc') (hv : Int32.ofInt n = v) (k : q_G X M Q ph σ pc' l (.int v :: st) E) : q_G X M Q ph σ pc l st E := by
  subst hp
  exact fun hE p e s m args below meth c H locs ls C hP hz h6 hT hS h => lv_iconst C.1 C.2.1 d hv (k hE p e s m args below meth c H locs ls C hP hz h6 hT hS h)
theorem gq_bipush {n : Int} {v : Int32} (d : decode M.2.1 pc = .ok (.bipush n, 2)) (hp : pc + 2 = pc') (hv : (Int8.ofInt n).toInt32 = v) (k : q_G X M Q ph σ pc' l (.int v :: st) E) : q_G X M Q ph σ pc l st E := by
  subst hp
  exact fun hE p e s m args below meth c H locs ls C hP hz h6 hT hS h => lv_bipush C.1 C.2.1 d hv (k hE p e s m args below meth c H locs ls C hP hz h6 hT hS h)
theorem gq_sipush {n : Int} {v : Int32} (d : decode M.2.1 pc = .ok (.sipush n, 3)) (hp : pc + 3 = pc') (hv : (Int16.ofInt n).toInt32 = v) (k : q_G X M Q ph σ pc' l (.int v :: st) E) : q_G X M Q ph σ pc l st E := by
  subst hp
  exact fun hE p e s m args below meth c H locs ls C hP hz h6 hT hS h => lv_sipush C.1 C.2.1 d hv (k hE p e s m args below meth c H locs ls C hP hz h6 hT hS h)
theorem gq_iload_n {k : Fin 4} {i : Nat} {x : Int32} (d : decode M.2.1 pc = .ok (.iload_n k, 1)) (hp : pc + 1 = pc') (hl : l[i]? = some ((k : Nat), .int x)) (kk : q_G X M Q ph σ pc' l (.int x :: st) E) : q_G X M Q ph σ pc l st E := by
  subst hp
  exact fun hE p e s m args below meth c H locs ls C hP hz h6 hT hS h => lv_iload_n C.1 C.2.1 d rfl (lv_at h i hl) (kk hE p e s m args below meth c H locs ls C hP hz h6 hT hS h)
theorem gq_iload {i j : Nat} {x : Int32} (d : decode M.2.1 pc = .ok (.iload j, 2)) (hp : pc + 2 = pc') (hl : l[i]? = some (j, .int x)) (k : q_G X M Q ph σ pc' l (.int x :: st) E) : q_G X M Q ph σ pc l st E := by
  subst hp
  exact fun hE p e s m args below meth c H locs ls C hP hz h6 hT hS h => lv_iload C.1 C.2.1 d (lv_at h i hl) (k hE p e s m args below meth c H locs ls C hP hz h6 hT hS h)
theorem gq_aload_n {k : Fin 4} {i : Nat} {x : Nat} (d : decode M.2.1 pc = .ok (.aload_n k, 1)) (hp : pc + 1 = pc') (hl : l[i]? = some ((k : Nat), .ref x)) (kk : q_G X M Q ph σ pc' l (.ref x :: st) E) : q_G X M Q ph σ pc l st E := by
  subst hp
  exact fun hE p e s m args below meth c H locs ls C hP hz h6 hT hS h => lv_aload_n C.1 C.2.1 d rfl (lv_at h i hl) (kk hE p e s m args below meth c H locs ls C hP hz h6 hT hS h)
theorem gq_lload_n {k : Fin 4} {i : Nat} {x : Int64} (d : decode M.2.1 pc = .ok (.lload_n k, 1)) (hp : pc + 1 = pc') (hl : l[i]? = some ((k : Nat), .long x)) (kk : q_G X M Q ph σ pc' l (.long x :: st) E) : q_G X M Q ph σ pc l st E := by
  subst hp
  exact fun hE p e s m args below meth c H locs ls C hP hz h6 hT hS h => lv_lload_n C.1 C.2.1 d rfl (lv_at h i hl) (kk hE p e s m args below meth c H locs ls C hP hz h6 hT hS h)
theorem gq_istore_n {k : Fin 4} {x : Int32} (d : decode M.2.1 pc = .ok (.istore_n k, 1)) (hp : pc + 1 = pc') (hn : (k : Nat) < M.2.2.1) (hl : ((k : Nat), Value.int x) :: l.filter (fun q => !(q.1 == (k : Nat)) && !(q.1 + 1 == (k : Nat) && q.2.category == 2)) = l') (kk : q_G X M Q ph σ pc' l' st E) : q_G X M Q ph σ pc l (Value.int x :: st) E := by
  subst hp
  exact fun hE p e s m args below meth c H locs ls C hP hz h6 hT hS h => lv_istore_n C.1 C.2.1 d rfl h hn hl (fun ls' h' => kk hE p e s m args below meth c H locs ls' C hP hz h6 hT hS h')
theorem gq_istore {i : Nat} {x : Int32} (d : decode M.2.1 pc = .ok (.istore i, 2)) (hp : pc + 2 = pc') (hn : i < M.2.2.1) (hl : (i, Value.int x) :: l.filter (fun q => !(q.1 == i) && !(q.1 + 1 == i && q.2.category == 2)) = l') (kk : q_G X M Q ph σ pc' l' st E) : q_G X M Q ph σ pc l (Value.int x :: st) E := by
  subst hp
  exact fun hE p e s m args below meth c H locs ls C hP hz h6 hT hS h => lv_istore C.1 C.2.1 d h hn hl (fun ls' h' => kk hE p e s m args below meth c H locs ls' C hP hz h6 hT hS h')
theorem gq_astore_n {k : Fin 4} {x : Nat} (d : decode M.2.1 pc = .ok (.astore_n k, 1)) (hp : pc + 1 = pc') (hn : (k : Nat) < M.2.2.1) (hl : ((k : Nat), Value.ref x) :: l.filter (fun q => !(q.1 == (k : Nat)) && !(q.1 + 1 == (k : Nat) && q.2.category == 2)) = l') (kk : q_G X M Q ph σ pc' l' st E) : q_G X M Q ph σ pc l (Value.ref x :: st) E := by
  subst hp
  exact fun hE p e s m args below meth c H locs ls C hP hz h6 hT hS h => lv_astore_n C.1 C.2.1 d rfl h hn hl (fun ls' h' => kk hE p e s m args below meth c H locs ls' C hP hz h6 hT hS h')
theorem gq_iinc {i j : Nat} {n : Int} {x v : Int32} (d : decode M.2.1 pc = .ok (.iinc i n, 3)) (hp : pc + 3 = pc') (hk : l[j]? = some (i, .int x)) (hv : x + Int32.ofInt n = v) (hn : i < M.2.2.1) (hl : (i, Value.int v) :: l.filter (fun q => !(q.1 == i) && !(q.1 + 1 == i && q.2.category == 2)) = l') (kk : q_G X M Q ph σ pc' l' st E) : q_G X M Q ph σ pc l st E := by
  subst hp
  exact fun hE p e s m args below meth c H locs ls C hP hz h6 hT hS h => lv_iinc C.1 C.2.1 d h hk hv hn hl (fun ls' h' => kk hE p e s m args below meth c H locs ls' C hP hz h6 hT hS h')
theorem gq_iadd {x y : Int32} (d : decode M.2.1 pc = .ok (.iadd, 1)) (hp : pc + 1 = pc') (k : q_G X M Q ph σ pc' l (.int (x + y) :: st) E) : q_G X M Q ph σ pc l (.int y :: .int x :: st) E := by
  subst hp
  exact fun hE p e s m args below meth c H locs ls C hP hz h6 hT hS h => lv_iadd C.1 C.2.1 d (k hE p e s m args below meth c H locs ls C hP hz h6 hT hS h)
theorem gq_isub {x y : Int32} (d : decode M.2.1 pc = .ok (.isub, 1)) (hp : pc + 1 = pc') (k : q_G X M Q ph σ pc' l (.int (x - y) :: st) E) : q_G X M Q ph σ pc l (.int y :: .int x :: st) E := by
  subst hp
  exact fun hE p e s m args below meth c H locs ls C hP hz h6 hT hS h => lv_isub C.1 C.2.1 d (k hE p e s m args below meth c H locs ls C hP hz h6 hT hS h)
theorem gq_imul {x y : Int32} (d : decode M.2.1 pc = .ok (.imul, 1)) (hp : pc + 1 = pc') (k : q_G X M Q ph σ pc' l (.int (x * y) :: st) E) : q_G X M Q ph σ pc l (.int y :: .int x :: st) E := by
  subst hp
  exact fun hE p e s m args below meth c H locs ls C hP hz h6 hT hS h => lv_imul C.1 C.2.1 d (k hE p e s m args below meth c H locs ls C hP hz h6 hT hS h)
theorem gq_iand {x y : Int32} (d : decode M.2.1 pc = .ok (.iand, 1)) (hp : pc + 1 = pc') (k : q_G X M Q ph σ pc' l (.int (x &&& y) :: st) E) : q_G X M Q ph σ pc l (.int y :: .int x :: st) E := by
  subst hp
  exact fun hE p e s m args below meth c H locs ls C hP hz h6 hT hS h => lv_iand C.1 C.2.1 d (k hE p e s m args below meth c H locs ls C hP hz h6 hT hS h)
theorem gq_ior {x y : Int32} (d : decode M.2.1 pc = .ok (.ior, 1)) (hp : pc + 1 = pc') (k : q_G X M Q ph σ pc' l (.int (x ||| y) :: st) E) : q_G X M Q ph σ pc l (.int y :: .int x :: st) E := by
  subst hp
  exact fun hE p e s m args below meth c H locs ls C hP hz h6 hT hS h => lv_ior C.1 C.2.1 d (k hE p e s m args below meth c H locs ls C hP hz h6 hT hS h)
theorem gq_ixor {x y : Int32} (d : decode M.2.1 pc = .ok (.ixor, 1)) (hp : pc + 1 = pc') (k : q_G X M Q ph σ pc' l (.int (x ^^^ y) :: st) E) : q_G X M Q ph σ pc l (.int y :: .int x :: st) E := by
  subst hp
  exact fun hE p e s m args below meth c H locs ls C hP hz h6 hT hS h => lv_ixor C.1 C.2.1 d (k hE p e s m args below meth c H locs ls C hP hz h6 hT hS h)
theorem gq_ishl {x y : Int32} (d : decode M.2.1 pc = .ok (.ishl, 1)) (hp : pc + 1 = pc') (k : q_G X M Q ph σ pc' l (.int (x <<< (y &&& 31)) :: st) E) : q_G X M Q ph σ pc l (.int y :: .int x :: st) E := by
  subst hp
  exact fun hE p e s m args below meth c H locs ls C hP hz h6 hT hS h => lv_ishl C.1 C.2.1 d (k hE p e s m args below meth c H locs ls C hP hz h6 hT hS h)
theorem gq_ishr {x y : Int32} (d : decode M.2.1 pc = .ok (.ishr, 1)) (hp : pc + 1 = pc') (k : q_G X M Q ph σ pc' l (.int (x >>> (y &&& 31)) :: st) E) : q_G X M Q ph σ pc l (.int y :: .int x :: st) E := by
  subst hp
  exact fun hE p e s m args below meth c H locs ls C hP hz h6 hT hS h => lv_ishr C.1 C.2.1 d (k hE p e s m args below meth c H locs ls C hP hz h6 hT hS h)
theorem gq_ineg {x : Int32} (d : decode M.2.1 pc = .ok (.ineg, 1)) (hp : pc + 1 = pc') (k : q_G X M Q ph σ pc' l (.int (-x) :: st) E) : q_G X M Q ph σ pc l (.int x :: st) E := by
  subst hp
  exact fun hE p e s m args below meth c H locs ls C hP hz h6 hT hS h => lv_ineg C.1 C.2.1 d (k hE p e s m args below meth c H locs ls C hP hz h6 hT hS h)
theorem gq_idiv {x y : Int32} (d : decode M.2.1 pc = .ok (.idiv, 1)) (hp : pc + 1 = pc') (hne : ¬ y = 0) (k : q_G X M Q ph σ pc' l (.int (x / y) :: st) E) : q_G X M Q ph σ pc l (.int y :: .int x :: st) E := by
  subst hp
  exact fun hE p e s m args below meth c H locs ls C hP hz h6 hT hS h => lv_idiv C.1 C.2.1 d hne (k hE p e s m args below meth c H locs ls C hP hz h6 hT hS h)
theorem gq_irem {x y : Int32} (d : decode M.2.1 pc = .ok (.irem, 1)) (hp : pc + 1 = pc') (hne : ¬ y = 0) (k : q_G X M Q ph σ pc' l (.int (x - x / y * y) :: st) E) : q_G X M Q ph σ pc l (.int y :: .int x :: st) E := by
  subst hp
  exact fun hE p e s m args below meth c H locs ls C hP hz h6 hT hS h => lv_irem C.1 C.2.1 d hne (k hE p e s m args below meth c H locs ls C hP hz h6 hT hS h)
theorem gq_i2l {x : Int32} (d : decode M.2.1 pc = .ok (.i2l, 1)) (hp : pc + 1 = pc') (k : q_G X M Q ph σ pc' l (.long x.toInt64 :: st) E) : q_G X M Q ph σ pc l (.int x :: st) E := by
  subst hp
  exact fun hE p e s m args below meth c H locs ls C hP hz h6 hT hS h => lv_i2l C.1 C.2.1 d rfl (k hE p e s m args below meth c H locs ls C hP hz h6 hT hS h)
theorem gq_l2i {x : Int64} (d : decode M.2.1 pc = .ok (.l2i, 1)) (hp : pc + 1 = pc') (k : q_G X M Q ph σ pc' l (.int x.toInt32 :: st) E) : q_G X M Q ph σ pc l (.long x :: st) E := by
  subst hp
  exact fun hE p e s m args below meth c H locs ls C hP hz h6 hT hS h => lv_l2i C.1 C.2.1 d rfl (k hE p e s m args below meth c H locs ls C hP hz h6 hT hS h)
theorem gq_land {x y : Int64} (d : decode M.2.1 pc = .ok (.land, 1)) (hp : pc + 1 = pc') (k : q_G X M Q ph σ pc' l (.long (x &&& y) :: st) E) : q_G X M Q ph σ pc l (.long y :: .long x :: st) E := by
  subst hp
  exact fun hE p e s m args below meth c H locs ls C hP hz h6 hT hS h => lv_land C.1 C.2.1 d (k hE p e s m args below meth c H locs ls C hP hz h6 hT hS h)
theorem gq_lor {x y : Int64} (d : decode M.2.1 pc = .ok (.lor, 1)) (hp : pc + 1 = pc') (k : q_G X M Q ph σ pc' l (.long (x ||| y) :: st) E) : q_G X M Q ph σ pc l (.long y :: .long x :: st) E := by
  subst hp
  exact fun hE p e s m args below meth c H locs ls C hP hz h6 hT hS h => lv_lor C.1 C.2.1 d (k hE p e s m args below meth c H locs ls C hP hz h6 hT hS h)
theorem gq_lushr {x : Int64} {y : Int32} (d : decode M.2.1 pc = .ok (.lushr, 1)) (hp : pc + 1 = pc') (k : q_G X M Q ph σ pc' l (.long ((x.toUInt64 >>> (y.toInt64.toUInt64 &&& Int64.toUInt64 63)).toInt64) :: st) E) : q_G X M Q ph σ pc l (.int y :: .long x :: st) E := by
  subst hp
  exact fun hE p e s m args below meth c H locs ls C hP hz h6 hT hS h => lv_lushr C.1 C.2.1 d rfl (k hE p e s m args below meth c H locs ls C hP hz h6 hT hS h)
theorem gq_lshl {x : Int64} {y : Int32} (d : decode M.2.1 pc = .ok (.lshl, 1)) (hp : pc + 1 = pc') (k : q_G X M Q ph σ pc' l (.long (x <<< (y.toInt64 &&& 63)) :: st) E) : q_G X M Q ph σ pc l (.int y :: .long x :: st) E := by
  subst hp
  exact fun hE p e s m args below meth c H locs ls C hP hz h6 hT hS h => lv_lshl C.1 C.2.1 d rfl (k hE p e s m args below meth c H locs ls C hP hz h6 hT hS h)
theorem gq_lshr {x : Int64} {y : Int32} (d : decode M.2.1 pc = .ok (.lshr, 1)) (hp : pc + 1 = pc') (k : q_G X M Q ph σ pc' l (.long (x >>> (y.toInt64 &&& 63)) :: st) E) : q_G X M Q ph σ pc l (.int y :: .long x :: st) E := by
  subst hp
  exact fun hE p e s m args below meth c H locs ls C hP hz h6 hT hS h => lv_lshr C.1 C.2.1 d rfl (k hE p e s m args below meth c H locs ls C hP hz h6 hT hS h)
theorem gq_dup {v : Value} (d : decode M.2.1 pc = .ok (.dup, 1)) (hp : pc + 1 = pc') (hv : v.category = 1) (k : q_G X M Q ph σ pc' l (v :: v :: st) E) : q_G X M Q ph σ pc l (v :: st) E := by
  subst hp
  exact fun hE p e s m args below meth c H locs ls C hP hz h6 hT hS h => lv_dup C.1 C.2.1 d hv (k hE p e s m args below meth c H locs ls C hP hz h6 hT hS h)
theorem gq_pop {v : Value} (d : decode M.2.1 pc = .ok (.pop, 1)) (hp : pc + 1 = pc') (hv : v.category = 1) (k : q_G X M Q ph σ pc' l st E) : q_G X M Q ph σ pc l (v :: st) E := by
  subst hp
  exact fun hE p e s m args below meth c H locs ls C hP hz h6 hT hS h => lv_pop C.1 C.2.1 d hv (k hE p e s m args below meth c H locs ls C hP hz h6 hT hS h)
theorem gq_dup2 {v w : Value} (d : decode M.2.1 pc = .ok (.dup2, 1)) (hp : pc + 1 = pc') (hv : v.category = 1) (hw : w.category = 1) (k : q_G X M Q ph σ pc' l (v :: w :: v :: w :: st) E) : q_G X M Q ph σ pc l (v :: w :: st) E := by
  subst hp
  exact fun hE p e s m args below meth c H locs ls C hP hz h6 hT hS h => lv_dup2_11 C.1 C.2.1 d hv hw (k hE p e s m args below meth c H locs ls C hP hz h6 hT hS h)
theorem gq_dup_x1 {v w : Value} (d : decode M.2.1 pc = .ok (.dup_x1, 1)) (hp : pc + 1 = pc') (hv : v.category = 1) (hw : w.category = 1) (k : q_G X M Q ph σ pc' l (v :: w :: v :: st) E) : q_G X M Q ph σ pc l (v :: w :: st) E := by
  subst hp
  exact fun hE p e s m args below meth c H locs ls C hP hz h6 hT hS h => lv_dup_x1 C.1 C.2.1 d hv hw (k hE p e s m args below meth c H locs ls C hP hz h6 hT hS h)
theorem gq_goto {off : Int} (d : decode M.2.1 pc = .ok (.goto off, 3)) (hp : (pc : Int) + off = (pc' : Int)) (k : q_G X M Q ph σ pc' l st E) : q_G X M Q ph σ pc l st E :=
  fun hE p e s m args below meth c H locs ls C hP hz h6 hT hS h => lv_goto C.1 C.2.1 d hp (k hE p e s m args below meth c H locs ls C hP hz h6 hT hS h)
theorem gq_lconst {n : Fin 2} {v : Int64} (d : decode M.2.1 pc = .ok (.lconst n, 1)) (hp : pc + 1 = pc') (hv : Int64.ofNat (n : Nat) = v) (kk : q_G X M Q ph σ pc' l (.long v :: st) E) : q_G X M Q ph σ pc l st E := by
  subst hp
  exact fun hE p e s m args below meth c H locs ls C hP hz h6 hT hS h => lv_lconst C.1 C.2.1 d hv (kk hE p e s m args below meth c H locs ls C hP hz h6 hT hS h)
theorem gq_ladd {x y : Int64} (d : decode M.2.1 pc = .ok (.ladd, 1)) (hp : pc + 1 = pc') (kk : q_G X M Q ph σ pc' l (.long (x + y) :: st) E) : q_G X M Q ph σ pc l (.long y :: .long x :: st) E := by
  subst hp
  exact fun hE p e s m args below meth c H locs ls C hP hz h6 hT hS h => lv_ladd C.1 C.2.1 d (kk hE p e s m args below meth c H locs ls C hP hz h6 hT hS h)
theorem gq_lmul {x y : Int64} (d : decode M.2.1 pc = .ok (.lmul, 1)) (hp : pc + 1 = pc') (kk : q_G X M Q ph σ pc' l (.long (x * y) :: st) E) : q_G X M Q ph σ pc l (.long y :: .long x :: st) E := by
  subst hp
  exact fun hE p e s m args below meth c H locs ls C hP hz h6 hT hS h => lv_lmul C.1 C.2.1 d (kk hE p e s m args below meth c H locs ls C hP hz h6 hT hS h)
theorem gq_lcmp {x y : Int64} (d : decode M.2.1 pc = .ok (.lcmp, 1)) (hp : pc + 1 = pc') (kk : q_G X M Q ph σ pc' l (.int (lg_cmp x y) :: st) E) : q_G X M Q ph σ pc l (.long y :: .long x :: st) E := by
  subst hp
  exact fun hE p e s m args below meth c H locs ls C hP hz h6 hT hS h => W.lcmp C.1 C.2.1 d (kk hE p e s m args below meth c H locs ls C hP hz h6 hT hS h)
theorem gq_ldc {idx : Nat} {v : Int32} (d : decode M.2.1 pc = .ok (.ldc idx, 2)) (hp : pc + 2 = pc') (hl : Cond.constant M.1.cls idx v ∈ lw_gd) (kk : q_G X M Q ph σ pc' l (.int v :: st) E) : q_G X M Q ph σ pc l st E := by
  subst hp
  exact fun hE p e s m args below meth c H locs ls C hP hz h6 hT hS h => lv_ldc C.1 C.2.1 C.2.2.2.2.1 (C.2.2.2.2.2.1 _ hl) d (kk hE p e s m args below meth c H locs ls C hP hz h6 hT hS h)
theorem gq_lstore_n {k : Fin 4} {x : Int64} (d : decode M.2.1 pc = .ok (.lstore_n k, 1)) (hp : pc + 1 = pc') (hn : (k : Nat) + 1 < M.2.2.1) (hl : ((k : Nat), Value.long x) :: l.filter (fun q => !(q.1 == (k : Nat)) && (!(q.1 == (k : Nat) + 1) && !(q.1 + 1 == (k : Nat) && q.2.category == 2))) = l') (kk : q_G X M Q ph σ pc' l' st E) : q_G X M Q ph σ pc l (.long x :: st) E := by
  subst hp
  exact fun hE p e s m args below meth c H locs ls C hP hz h6 hT hS h => lv_lstore_n C.1 C.2.1 d rfl h hn hl (fun ls' h' => kk hE p e s m args below meth c H locs ls' C hP hz h6 hT hS h')
theorem gq_iremq {x y : Int32} (d : decode M.2.1 pc = .ok (.irem, 1)) (hp : pc + 1 = pc') (kk : q_G X M Q ph σ pc' l (.int (x - x / y * y) :: st) E) : q_G X M Q ph σ pc l (.int y :: .int x :: st) (if y = 0 then none else E) := gq_ite (fun _ => gq_none) (fun h => gq_irem d hp h kk)
section QB
variable {off : Int} {tgt : Nat} {x y : Int32}
theorem gq_if_eq (d : decode M.2.1 pc = .ok (.ifCond .eq off, 3)) (hp : pc + 3 = pc') (ht : (pc : Int) + off = (tgt : Int)) (k1 : x = 0 → q_G X M Q ph σ tgt l st E1) (k2 : ¬ x = 0 → q_G X M Q ph σ pc' l st E2) : q_G X M Q ph σ pc l (.int x :: st) (if x = 0 then E1 else E2) := by
  subst hp
  exact fun hE p e s m args below meth c H locs ls C hP hz h6 hT hS h => lv_if_eq C.1 C.2.1 d ht (fun hc => by have hE2 := hE; rw [if_pos hc] at hE2; rw [if_pos hc]; exact k1 hc hE2 p e s m args below meth c H locs ls C hP hz h6 hT hS h) (fun hc => by have hE2 := hE; rw [if_neg hc] at hE2; rw [if_neg hc]; exact k2 hc hE2 p e s m args below meth c H locs ls C hP hz h6 hT hS h)
theorem gq_if_ne (d : decode M.2.1 pc = .ok (.ifCond .ne off, 3)) (hp : pc + 3 = pc') (ht : (pc : Int) + off = (tgt : Int)) (k1 : x = 0 → q_G X M Q ph σ pc' l st E1) (k2 : ¬ x = 0 → q_G X M Q ph σ tgt l st E2) : q_G X M Q ph σ pc l (.int x :: st) (if x = 0 then E1 else E2) := by
  subst hp
  exact fun hE p e s m args below meth c H locs ls C hP hz h6 hT hS h => lv_if_ne C.1 C.2.1 d ht (fun hc => by have hE2 := hE; rw [if_neg hc] at hE2; rw [if_neg hc]; exact k2 hc hE2 p e s m args below meth c H locs ls C hP hz h6 hT hS h) (fun hc => by have hE2 := hE; rw [if_pos hc] at hE2; rw [if_pos hc]; exact k1 hc hE2 p e s m args below meth c H locs ls C hP hz h6 hT hS h)
theorem gq_if_lt (d : decode M.2.1 pc = .ok (.ifCond .lt off, 3)) (hp : pc + 3 = pc') (ht : (pc : Int) + off = (tgt : Int)) (k1 : x < 0 → q_G X M Q ph σ tgt l st E1) (k2 : ¬ x < 0 → q_G X M Q ph σ pc' l st E2) : q_G X M Q ph σ pc l (.int x :: st) (if x < 0 then E1 else E2) := by
  subst hp
  exact fun hE p e s m args below meth c H locs ls C hP hz h6 hT hS h => lv_if_lt C.1 C.2.1 d ht (fun hc => by have hE2 := hE; rw [if_pos hc] at hE2; rw [if_pos hc]; exact k1 hc hE2 p e s m args below meth c H locs ls C hP hz h6 hT hS h) (fun hc => by have hE2 := hE; rw [if_neg hc] at hE2; rw [if_neg hc]; exact k2 hc hE2 p e s m args below meth c H locs ls C hP hz h6 hT hS h)
theorem gq_if_ge (d : decode M.2.1 pc = .ok (.ifCond .ge off, 3)) (hp : pc + 3 = pc') (ht : (pc : Int) + off = (tgt : Int)) (k1 : 0 ≤ x → q_G X M Q ph σ tgt l st E1) (k2 : ¬ 0 ≤ x → q_G X M Q ph σ pc' l st E2) : q_G X M Q ph σ pc l (.int x :: st) (if 0 ≤ x then E1 else E2) := by
  subst hp
  exact fun hE p e s m args below meth c H locs ls C hP hz h6 hT hS h => lv_if_ge C.1 C.2.1 d ht (fun hc => by have hE2 := hE; rw [if_pos hc] at hE2; rw [if_pos hc]; exact k1 hc hE2 p e s m args below meth c H locs ls C hP hz h6 hT hS h) (fun hc => by have hE2 := hE; rw [if_neg hc] at hE2; rw [if_neg hc]; exact k2 hc hE2 p e s m args below meth c H locs ls C hP hz h6 hT hS h)
theorem gq_if_gt (d : decode M.2.1 pc = .ok (.ifCond .gt off, 3)) (hp : pc + 3 = pc') (ht : (pc : Int) + off = (tgt : Int)) (k1 : 0 < x → q_G X M Q ph σ tgt l st E1) (k2 : ¬ 0 < x → q_G X M Q ph σ pc' l st E2) : q_G X M Q ph σ pc l (.int x :: st) (if 0 < x then E1 else E2) := by
  subst hp
  exact fun hE p e s m args below meth c H locs ls C hP hz h6 hT hS h => lv_if_gt C.1 C.2.1 d ht (fun hc => by have hE2 := hE; rw [if_pos hc] at hE2; rw [if_pos hc]; exact k1 hc hE2 p e s m args below meth c H locs ls C hP hz h6 hT hS h) (fun hc => by have hE2 := hE; rw [if_neg hc] at hE2; rw [if_neg hc]; exact k2 hc hE2 p e s m args below meth c H locs ls C hP hz h6 hT hS h)
theorem gq_if_le (d : decode M.2.1 pc = .ok (.ifCond .le off, 3)) (hp : pc + 3 = pc') (ht : (pc : Int) + off = (tgt : Int)) (k1 : x ≤ 0 → q_G X M Q ph σ tgt l st E1) (k2 : ¬ x ≤ 0 → q_G X M Q ph σ pc' l st E2) : q_G X M Q ph σ pc l (.int x :: st) (if x ≤ 0 then E1 else E2) := by
  subst hp
  exact fun hE p e s m args below meth c H locs ls C hP hz h6 hT hS h => lv_if_le C.1 C.2.1 d ht (fun hc => by have hE2 := hE; rw [if_pos hc] at hE2; rw [if_pos hc]; exact k1 hc hE2 p e s m args below meth c H locs ls C hP hz h6 hT hS h) (fun hc => by have hE2 := hE; rw [if_neg hc] at hE2; rw [if_neg hc]; exact k2 hc hE2 p e s m args below meth c H locs ls C hP hz h6 hT hS h)
theorem gq_icmp_eq (d : decode M.2.1 pc = .ok (.if_icmp .eq off, 3)) (hp : pc + 3 = pc') (ht : (pc : Int) + off = (tgt : Int)) (k1 : x = y → q_G X M Q ph σ tgt l st E1) (k2 : ¬ x = y → q_G X M Q ph σ pc' l st E2) : q_G X M Q ph σ pc l (.int y :: .int x :: st) (if x = y then E1 else E2) := by
  subst hp
  exact fun hE p e s m args below meth c H locs ls C hP hz h6 hT hS h => lv_icmp_eq C.1 C.2.1 d ht (fun hc => by have hE2 := hE; rw [if_pos hc] at hE2; rw [if_pos hc]; exact k1 hc hE2 p e s m args below meth c H locs ls C hP hz h6 hT hS h) (fun hc => by have hE2 := hE; rw [if_neg hc] at hE2; rw [if_neg hc]; exact k2 hc hE2 p e s m args below meth c H locs ls C hP hz h6 hT hS h)
theorem gq_icmp_ne (d : decode M.2.1 pc = .ok (.if_icmp .ne off, 3)) (hp : pc + 3 = pc') (ht : (pc : Int) + off = (tgt : Int)) (k1 : x = y → q_G X M Q ph σ pc' l st E1) (k2 : ¬ x = y → q_G X M Q ph σ tgt l st E2) : q_G X M Q ph σ pc l (.int y :: .int x :: st) (if x = y then E1 else E2) := by
  subst hp
  exact fun hE p e s m args below meth c H locs ls C hP hz h6 hT hS h => lv_icmp_ne C.1 C.2.1 d ht (fun hc => by have hE2 := hE; rw [if_neg hc] at hE2; rw [if_neg hc]; exact k2 hc hE2 p e s m args below meth c H locs ls C hP hz h6 hT hS h) (fun hc => by have hE2 := hE; rw [if_pos hc] at hE2; rw [if_pos hc]; exact k1 hc hE2 p e s m args below meth c H locs ls C hP hz h6 hT hS h)
theorem gq_icmp_lt (d : decode M.2.1 pc = .ok (.if_icmp .lt off, 3)) (hp : pc + 3 = pc') (ht : (pc : Int) + off = (tgt : Int)) (k1 : x < y → q_G X M Q ph σ tgt l st E1) (k2 : ¬ x < y → q_G X M Q ph σ pc' l st E2) : q_G X M Q ph σ pc l (.int y :: .int x :: st) (if x < y then E1 else E2) := by
  subst hp
  exact fun hE p e s m args below meth c H locs ls C hP hz h6 hT hS h => lv_icmp_lt C.1 C.2.1 d ht (fun hc => by have hE2 := hE; rw [if_pos hc] at hE2; rw [if_pos hc]; exact k1 hc hE2 p e s m args below meth c H locs ls C hP hz h6 hT hS h) (fun hc => by have hE2 := hE; rw [if_neg hc] at hE2; rw [if_neg hc]; exact k2 hc hE2 p e s m args below meth c H locs ls C hP hz h6 hT hS h)
theorem gq_icmp_ge (d : decode M.2.1 pc = .ok (.if_icmp .ge off, 3)) (hp : pc + 3 = pc') (ht : (pc : Int) + off = (tgt : Int)) (k1 : y ≤ x → q_G X M Q ph σ tgt l st E1) (k2 : ¬ y ≤ x → q_G X M Q ph σ pc' l st E2) : q_G X M Q ph σ pc l (.int y :: .int x :: st) (if y ≤ x then E1 else E2) := by
  subst hp
  exact fun hE p e s m args below meth c H locs ls C hP hz h6 hT hS h => lv_icmp_ge C.1 C.2.1 d ht (fun hc => by have hE2 := hE; rw [if_pos hc] at hE2; rw [if_pos hc]; exact k1 hc hE2 p e s m args below meth c H locs ls C hP hz h6 hT hS h) (fun hc => by have hE2 := hE; rw [if_neg hc] at hE2; rw [if_neg hc]; exact k2 hc hE2 p e s m args below meth c H locs ls C hP hz h6 hT hS h)
theorem gq_icmp_gt (d : decode M.2.1 pc = .ok (.if_icmp .gt off, 3)) (hp : pc + 3 = pc') (ht : (pc : Int) + off = (tgt : Int)) (k1 : y < x → q_G X M Q ph σ tgt l st E1) (k2 : ¬ y < x → q_G X M Q ph σ pc' l st E2) : q_G X M Q ph σ pc l (.int y :: .int x :: st) (if y < x then E1 else E2) := by
  subst hp
  exact fun hE p e s m args below meth c H locs ls C hP hz h6 hT hS h => lv_icmp_gt C.1 C.2.1 d ht (fun hc => by have hE2 := hE; rw [if_pos hc] at hE2; rw [if_pos hc]; exact k1 hc hE2 p e s m args below meth c H locs ls C hP hz h6 hT hS h) (fun hc => by have hE2 := hE; rw [if_neg hc] at hE2; rw [if_neg hc]; exact k2 hc hE2 p e s m args below meth c H locs ls C hP hz h6 hT hS h)
theorem gq_icmp_le (d : decode M.2.1 pc = .ok (.if_icmp .le off, 3)) (hp : pc + 3 = pc') (ht : (pc : Int) + off = (tgt : Int)) (k1 : x ≤ y → q_G X M Q ph σ tgt l st E1) (k2 : ¬ x ≤ y → q_G X M Q ph σ pc' l st E2) : q_G X M Q ph σ pc l (.int y :: .int x :: st) (if x ≤ y then E1 else E2) := by
  subst hp
  exact fun hE p e s m args below meth c H locs ls C hP hz h6 hT hS h => lv_icmp_le C.1 C.2.1 d ht (fun hc => by have hE2 := hE; rw [if_pos hc] at hE2; rw [if_pos hc]; exact k1 hc hE2 p e s m args below meth c H locs ls C hP hz h6 hT hS h) (fun hc => by have hE2 := hE; rw [if_neg hc] at hE2; rw [if_neg hc]; exact k2 hc hE2 p e s m args below meth c H locs ls C hP hz h6 hT hS h)
end QB
theorem gq_tswIn {dflt lo hi off : Int} {offs : Array Int} {len : Nat} {x k : Int32} {tgt : Nat} (hx : x = k) (d : decode M.2.1 pc = .ok (.tableswitch dflt lo hi offs, len)) (h1 : ¬ k.toInt < lo) (h2 : ¬ hi < k.toInt) (ho : offs[(k.toInt - lo).toNat]? = some off) (ht : (pc : Int) + off = (tgt : Int)) (kk : q_G X M Q ph σ tgt l st E) : q_G X M Q ph σ pc l (.int x :: st) E := by
  subst hx
  exact fun hE p e s m args below meth c H locs ls C hP hz h6 hT hS h => lv_tableIn C.1 C.2.1 d h1 h2 ho ht (kk hE p e s m args below meth c H locs ls C hP hz h6 hT hS h)
theorem gq_tswLo {dflt lo hi : Int} {offs : Array Int} {len : Nat} {x k : Int32} {tgt : Nat} (hx : x < k) (d : decode M.2.1 pc = .ok (.tableswitch dflt lo hi offs, len)) (h1 : k.toInt = lo) (ht : (pc : Int) + dflt = (tgt : Int)) (kk : q_G X M Q ph σ tgt l st E) : q_G X M Q ph σ pc l (.int x :: st) E := by
  have h3 : x.toInt < lo := by rw [← h1]; exact Int32.lt_iff_toInt_lt.mp hx
  exact fun hE p e s m args below meth c H locs ls C hP hz h6 hT hS h => lv_tableOut C.1 C.2.1 d (Or.inl h3) ht (kk hE p e s m args below meth c H locs ls C hP hz h6 hT hS h)
theorem gq_tswHi {dflt lo hi : Int} {offs : Array Int} {len : Nat} {x k : Int32} {tgt : Nat} (hx : k < x) (d : decode M.2.1 pc = .ok (.tableswitch dflt lo hi offs, len)) (h1 : k.toInt = hi) (ht : (pc : Int) + dflt = (tgt : Int)) (kk : q_G X M Q ph σ tgt l st E) : q_G X M Q ph σ pc l (.int x :: st) E := by
  have h3 : hi < x.toInt := by rw [← h1]; exact Int32.lt_iff_toInt_lt.mp hx
  exact fun hE p e s m args below meth c H locs ls C hP hz h6 hT hS h => lv_tableOut C.1 C.2.1 d (Or.inr h3) ht (kk hE p e s m args below meth c H locs ls C hP hz h6 hT hS h)
end QR
