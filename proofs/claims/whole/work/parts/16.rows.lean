/-! A row an instruction, over the pure machine: goal first. -/
section QROW
variable {C : q_M → List Value → q_S → q_S → Option Value → Prop} {F : q_S → Option Value → Prop} {M : q_M} {pc : Nat} {ls : List (Nat × Value)} {st rest : List Value} {x : q_S}
theorem q_s1 {ins : ClassFile.Instr} {len pc' : Nat} {ls' : List (Nat × Value)} {st' : List Value} (hd : decode M.2.1 pc = .ok (ins, len)) (h : q_smp M pc ins len ls st x pc' ls' st') (k : q_X C F M pc' ls' st' x) : q_X C F M pc ls st x := by
  obtain ⟨n, k⟩ := k
  exact ⟨n + 1, ins, len, hd, Or.inl ⟨pc', ls', st', h, k⟩⟩
theorem q_s2 {ins : ClassFile.Instr} {len pc' : Nat} {ls' : List (Nat × Value)} {st' : List Value} {x' : q_S} (hd : decode M.2.1 pc = .ok (ins, len)) (h : q_hp M pc ins len ls st x pc' ls' st' x') (k : q_X C F M pc' ls' st' x') : q_X C F M pc ls st x := by
  obtain ⟨n, k⟩ := k
  exact ⟨n + 1, ins, len, hd, Or.inr (Or.inl ⟨pc', ls', st', x', h, k⟩)⟩
theorem q_s3 {ins : ClassFile.Instr} {len : Nat} {M' : q_M} {av : List Value} {x1 : q_S} {r : Option Value} (hd : decode M.2.1 pc = .ok (ins, len)) (h : q_cl M ins len st x M' av rest) (hc : C M' av x x1 r) (k : q_X C F M (pc + 3) ls (r.toList ++ rest) x1) : q_X C F M pc ls st x := by
  obtain ⟨n, k⟩ := k
  exact ⟨n + 1, ins, len, hd, Or.inr (Or.inr (Or.inl ⟨M', av, rest, x1, r, h, hc, k⟩))⟩
theorem q_s4 {ins : ClassFile.Instr} {len : Nat} {r : Option Value} (hd : decode M.2.1 pc = .ok (ins, len)) (h : q_rt M ins len st r) (hf : F x r) : q_X C F M pc ls st x := ⟨1, ins, len, hd, Or.inr (Or.inr (Or.inr ⟨r, h, hf⟩))⟩
theorem r_iconst (pc' : Nat) (v : Int32) {n : Int} (hd : decode M.2.1 pc = .ok (.iconst n, 1)) (hv : Int32.ofInt n = v) (hp : pc + 1 = pc') (k : q_X C F M pc' ls (.int v :: st) x) : q_X C F M pc ls st x := by subst hp; exact q_s1 hd (by subst hv; exact ⟨rfl, rfl, rfl, rfl⟩) k
theorem r_bipush (pc' : Nat) (v : Int32) {n : Int} (hd : decode M.2.1 pc = .ok (.bipush n, 2)) (hv : (Int8.ofInt n).toInt32 = v) (hp : pc + 2 = pc') (k : q_X C F M pc' ls (.int v :: st) x) : q_X C F M pc ls st x := by subst hp; exact q_s1 hd (by subst hv; exact ⟨rfl, rfl, rfl, rfl⟩) k
theorem r_sipush (pc' : Nat) (v : Int32) {n : Int} (hd : decode M.2.1 pc = .ok (.sipush n, 3)) (hv : (Int16.ofInt n).toInt32 = v) (hp : pc + 3 = pc') (k : q_X C F M pc' ls (.int v :: st) x) : q_X C F M pc ls st x := by subst hp; exact q_s1 hd (by subst hv; exact ⟨rfl, rfl, rfl, rfl⟩) k
theorem r_null (pc' : Nat) (hd : decode M.2.1 pc = .ok (.aconst_null, 1)) (hp : pc + 1 = pc') (k : q_X C F M pc' ls (va_rf none :: st) x) : q_X C F M pc ls st x := by subst hp; exact q_s1 hd ⟨rfl, rfl, rfl, rfl⟩ k
theorem r_iload_n (pc' : Nat) (i : Nat) {k0 : Fin 4} {v : Int32} (hd : decode M.2.1 pc = .ok (.iload_n k0, 1)) (hm : ls[i]? = some (k0.val, .int v)) (hp : pc + 1 = pc') (k : q_X C F M pc' ls (.int v :: st) x) : q_X C F M pc ls st x := by subst hp; exact q_s1 hd ⟨rfl, rfl, rfl, v, List.mem_of_getElem? hm, rfl⟩ k
theorem r_iload (pc' : Nat) (i : Nat) {k0 : Nat} {v : Int32} (hd : decode M.2.1 pc = .ok (.iload k0, 2)) (hm : ls[i]? = some (k0, .int v)) (hp : pc + 2 = pc') (k : q_X C F M pc' ls (.int v :: st) x) : q_X C F M pc ls st x := by subst hp; exact q_s1 hd ⟨rfl, rfl, rfl, v, List.mem_of_getElem? hm, rfl⟩ k
theorem r_aload_n (pc' : Nat) (i : Nat) {k0 : Fin 4} {v : Option Nat} (hd : decode M.2.1 pc = .ok (.aload_n k0, 1)) (hm : ls[i]? = some (k0.val, va_rf v)) (hp : pc + 1 = pc') (k : q_X C F M pc' ls (va_rf v :: st) x) : q_X C F M pc ls st x := by subst hp; exact q_s1 hd ⟨rfl, rfl, rfl, v, List.mem_of_getElem? hm, rfl⟩ k
theorem r_aload (pc' : Nat) (i : Nat) {k0 : Nat} {v : Option Nat} (hd : decode M.2.1 pc = .ok (.aload k0, 2)) (hm : ls[i]? = some (k0, va_rf v)) (hp : pc + 2 = pc') (k : q_X C F M pc' ls (va_rf v :: st) x) : q_X C F M pc ls st x := by subst hp; exact q_s1 hd ⟨rfl, rfl, rfl, v, List.mem_of_getElem? hm, rfl⟩ k
theorem r_istore_n (pc' : Nat) (ls' : List (Nat × Value)) {k0 : Fin 4} {v : Int32} (hd : decode M.2.1 pc = .ok (.istore_n k0, 1)) (hk : k0.val < M.2.2.1) (hl : q_st1 ls k0.val (.int v) = ls') (hp : pc + 1 = pc') (k : q_X C F M pc' ls' st x) : q_X C F M pc ls (.int v :: st) x := by subst hp; exact q_s1 hd (by subst hl; exact ⟨rfl, rfl, hk, v, rfl, rfl⟩) k
theorem r_istore (pc' : Nat) (ls' : List (Nat × Value)) {k0 : Nat} {v : Int32} (hd : decode M.2.1 pc = .ok (.istore k0, 2)) (hk : k0 < M.2.2.1) (hl : q_st1 ls k0 (.int v) = ls') (hp : pc + 2 = pc') (k : q_X C F M pc' ls' st x) : q_X C F M pc ls (.int v :: st) x := by subst hp; exact q_s1 hd (by subst hl; exact ⟨rfl, rfl, hk, v, rfl, rfl⟩) k
theorem r_astore_n (pc' : Nat) (ls' : List (Nat × Value)) {k0 : Fin 4} {v : Option Nat} (hd : decode M.2.1 pc = .ok (.astore_n k0, 1)) (hk : k0.val < M.2.2.1) (hl : q_st1 ls k0.val (va_rf v) = ls') (hp : pc + 1 = pc') (k : q_X C F M pc' ls' st x) : q_X C F M pc ls (va_rf v :: st) x := by subst hp; exact q_s1 hd (by subst hl; exact ⟨rfl, rfl, hk, v, rfl, rfl⟩) k
theorem r_astore (pc' : Nat) (ls' : List (Nat × Value)) {k0 : Nat} {v : Option Nat} (hd : decode M.2.1 pc = .ok (.astore k0, 2)) (hk : k0 < M.2.2.1) (hl : q_st1 ls k0 (va_rf v) = ls') (hp : pc + 2 = pc') (k : q_X C F M pc' ls' st x) : q_X C F M pc ls (va_rf v :: st) x := by subst hp; exact q_s1 hd (by subst hl; exact ⟨rfl, rfl, hk, v, rfl, rfl⟩) k
theorem r_iinc (pc' : Nat) (i : Nat) (ls' : List (Nat × Value)) (w : Int32) {j : Nat} {n : Int} {v : Int32} (hd : decode M.2.1 pc = .ok (.iinc j n, 3)) (hm : ls[i]? = some (j, .int v)) (hk : j < M.2.2.1) (hw : Int32.ofInt n = w) (hl : q_st1 ls j (.int (v + w)) = ls') (hp : pc + 3 = pc') (k : q_X C F M pc' ls' st x) : q_X C F M pc ls st x := by subst hp; exact q_s1 hd (by subst hw; subst hl; exact ⟨rfl, rfl, hk, rfl, v, List.mem_of_getElem? hm, rfl⟩) k
theorem r_iadd (pc' : Nat) {a b : Int32} (hd : decode M.2.1 pc = .ok (.iadd, 1)) (hp : pc + 1 = pc') (k : q_X C F M pc' ls (.int (a + b) :: st) x) : q_X C F M pc ls (.int b :: .int a :: st) x := by subst hp; exact q_s1 hd ⟨rfl, rfl, rfl, a, b, st, rfl, rfl⟩ k
theorem r_isub (pc' : Nat) {a b : Int32} (hd : decode M.2.1 pc = .ok (.isub, 1)) (hp : pc + 1 = pc') (k : q_X C F M pc' ls (.int (a - b) :: st) x) : q_X C F M pc ls (.int b :: .int a :: st) x := by subst hp; exact q_s1 hd ⟨rfl, rfl, rfl, a, b, st, rfl, rfl⟩ k
theorem r_imul (pc' : Nat) {a b : Int32} (hd : decode M.2.1 pc = .ok (.imul, 1)) (hp : pc + 1 = pc') (k : q_X C F M pc' ls (.int (a * b) :: st) x) : q_X C F M pc ls (.int b :: .int a :: st) x := by subst hp; exact q_s1 hd ⟨rfl, rfl, rfl, a, b, st, rfl, rfl⟩ k
theorem r_iand (pc' : Nat) {a b : Int32} (hd : decode M.2.1 pc = .ok (.iand, 1)) (hp : pc + 1 = pc') (k : q_X C F M pc' ls (.int (a &&& b) :: st) x) : q_X C F M pc ls (.int b :: .int a :: st) x := by subst hp; exact q_s1 hd ⟨rfl, rfl, rfl, a, b, st, rfl, rfl⟩ k
theorem r_ior (pc' : Nat) {a b : Int32} (hd : decode M.2.1 pc = .ok (.ior, 1)) (hp : pc + 1 = pc') (k : q_X C F M pc' ls (.int (a ||| b) :: st) x) : q_X C F M pc ls (.int b :: .int a :: st) x := by subst hp; exact q_s1 hd ⟨rfl, rfl, rfl, a, b, st, rfl, rfl⟩ k
theorem r_ixor (pc' : Nat) {a b : Int32} (hd : decode M.2.1 pc = .ok (.ixor, 1)) (hp : pc + 1 = pc') (k : q_X C F M pc' ls (.int (a ^^^ b) :: st) x) : q_X C F M pc ls (.int b :: .int a :: st) x := by subst hp; exact q_s1 hd ⟨rfl, rfl, rfl, a, b, st, rfl, rfl⟩ k
theorem r_ishl (pc' : Nat) {a b : Int32} (hd : decode M.2.1 pc = .ok (.ishl, 1)) (hp : pc + 1 = pc') (k : q_X C F M pc' ls (.int (a <<< (b &&& 31)) :: st) x) : q_X C F M pc ls (.int b :: .int a :: st) x := by subst hp; exact q_s1 hd ⟨rfl, rfl, rfl, a, b, st, rfl, rfl⟩ k
theorem r_ishr (pc' : Nat) {a b : Int32} (hd : decode M.2.1 pc = .ok (.ishr, 1)) (hp : pc + 1 = pc') (k : q_X C F M pc' ls (.int (a >>> (b &&& 31)) :: st) x) : q_X C F M pc ls (.int b :: .int a :: st) x := by subst hp; exact q_s1 hd ⟨rfl, rfl, rfl, a, b, st, rfl, rfl⟩ k
theorem r_iushr (pc' : Nat) {a b : Int32} (hd : decode M.2.1 pc = .ok (.iushr, 1)) (hp : pc + 1 = pc') (k : q_X C F M pc' ls (.int ((a.toUInt32 >>> (b.toUInt32 &&& Int32.toUInt32 31)).toInt32) :: st) x) : q_X C F M pc ls (.int b :: .int a :: st) x := by subst hp; exact q_s1 hd ⟨rfl, rfl, rfl, a, b, st, rfl, rfl⟩ k
theorem r_irem (pc' : Nat) {a b : Int32} (hd : decode M.2.1 pc = .ok (.irem, 1)) (hne : ¬ b = 0) (hp : pc + 1 = pc') (k : q_X C F M pc' ls (.int (a - a / b * b) :: st) x) : q_X C F M pc ls (.int b :: .int a :: st) x := by subst hp; exact q_s1 hd ⟨rfl, rfl, rfl, a, b, st, hne, rfl, rfl⟩ k
theorem r_i2l (pc' : Nat) {a : Int32} (hd : decode M.2.1 pc = .ok (.i2l, 1)) (hp : pc + 1 = pc') (k : q_X C F M pc' ls (.long a.toInt64 :: st) x) : q_X C F M pc ls (.int a :: st) x := by subst hp; exact q_s1 hd ⟨rfl, rfl, rfl, a, st, rfl, rfl⟩ k
theorem r_lcmp (pc' : Nat) {a b : Int64} (hd : decode M.2.1 pc = .ok (.lcmp, 1)) (hp : pc + 1 = pc') (k : q_X C F M pc' ls (.int (lg_cmp a b) :: st) x) : q_X C F M pc ls (.long b :: .long a :: st) x := by subst hp; exact q_s1 hd ⟨rfl, rfl, rfl, a, b, st, rfl, rfl⟩ k
theorem r_dupI (pc' : Nat) {v : Int32} (hd : decode M.2.1 pc = .ok (.dup, 1)) (hp : pc + 1 = pc') (k : q_X C F M pc' ls (.int v :: .int v :: st) x) : q_X C F M pc ls (.int v :: st) x := by subst hp; exact q_s1 hd ⟨rfl, rfl, rfl, .int v, st, rfl, rfl, rfl⟩ k
theorem r_popI (pc' : Nat) {v : Int32} (hd : decode M.2.1 pc = .ok (.pop, 1)) (hp : pc + 1 = pc') (k : q_X C F M pc' ls st x) : q_X C F M pc ls (.int v :: st) x := by subst hp; exact q_s1 hd ⟨rfl, rfl, rfl, .int v, rfl, rfl⟩ k
theorem r_dupR (pc' : Nat) {v : Option Nat} (hd : decode M.2.1 pc = .ok (.dup, 1)) (hp : pc + 1 = pc') (k : q_X C F M pc' ls (va_rf v :: va_rf v :: st) x) : q_X C F M pc ls (va_rf v :: st) x := by subst hp; exact q_s1 hd ⟨rfl, rfl, rfl, va_rf v, st, (q_cat v), rfl, rfl⟩ k
theorem r_popR (pc' : Nat) {v : Option Nat} (hd : decode M.2.1 pc = .ok (.pop, 1)) (hp : pc + 1 = pc') (k : q_X C F M pc' ls st x) : q_X C F M pc ls (va_rf v :: st) x := by subst hp; exact q_s1 hd ⟨rfl, rfl, rfl, va_rf v, (q_cat v), rfl⟩ k
theorem r_dup_x1II (pc' : Nat) {v : Int32} {w : Int32} (hd : decode M.2.1 pc = .ok (.dup_x1, 1)) (hp : pc + 1 = pc') (k : q_X C F M pc' ls (.int v :: .int w :: .int v :: st) x) : q_X C F M pc ls (.int v :: .int w :: st) x := by subst hp; exact q_s1 hd ⟨rfl, rfl, rfl, .int v, .int w, st, rfl, rfl, rfl, rfl⟩ k
theorem r_dup2II (pc' : Nat) {v : Int32} {w : Int32} (hd : decode M.2.1 pc = .ok (.dup2, 1)) (hp : pc + 1 = pc') (k : q_X C F M pc' ls (.int v :: .int w :: .int v :: .int w :: st) x) : q_X C F M pc ls (.int v :: .int w :: st) x := by subst hp; exact q_s1 hd ⟨rfl, rfl, rfl, .int v, .int w, st, rfl, rfl, rfl, rfl⟩ k
theorem r_dup_x1IR (pc' : Nat) {v : Int32} {w : Option Nat} (hd : decode M.2.1 pc = .ok (.dup_x1, 1)) (hp : pc + 1 = pc') (k : q_X C F M pc' ls (.int v :: va_rf w :: .int v :: st) x) : q_X C F M pc ls (.int v :: va_rf w :: st) x := by subst hp; exact q_s1 hd ⟨rfl, rfl, rfl, .int v, va_rf w, st, rfl, (q_cat w), rfl, rfl⟩ k
theorem r_dup2IR (pc' : Nat) {v : Int32} {w : Option Nat} (hd : decode M.2.1 pc = .ok (.dup2, 1)) (hp : pc + 1 = pc') (k : q_X C F M pc' ls (.int v :: va_rf w :: .int v :: va_rf w :: st) x) : q_X C F M pc ls (.int v :: va_rf w :: st) x := by subst hp; exact q_s1 hd ⟨rfl, rfl, rfl, .int v, va_rf w, st, rfl, (q_cat w), rfl, rfl⟩ k
theorem r_dup_x1RI (pc' : Nat) {v : Option Nat} {w : Int32} (hd : decode M.2.1 pc = .ok (.dup_x1, 1)) (hp : pc + 1 = pc') (k : q_X C F M pc' ls (va_rf v :: .int w :: va_rf v :: st) x) : q_X C F M pc ls (va_rf v :: .int w :: st) x := by subst hp; exact q_s1 hd ⟨rfl, rfl, rfl, va_rf v, .int w, st, (q_cat v), rfl, rfl, rfl⟩ k
theorem r_dup2RI (pc' : Nat) {v : Option Nat} {w : Int32} (hd : decode M.2.1 pc = .ok (.dup2, 1)) (hp : pc + 1 = pc') (k : q_X C F M pc' ls (va_rf v :: .int w :: va_rf v :: .int w :: st) x) : q_X C F M pc ls (va_rf v :: .int w :: st) x := by subst hp; exact q_s1 hd ⟨rfl, rfl, rfl, va_rf v, .int w, st, (q_cat v), rfl, rfl, rfl⟩ k
theorem r_dup_x1RR (pc' : Nat) {v : Option Nat} {w : Option Nat} (hd : decode M.2.1 pc = .ok (.dup_x1, 1)) (hp : pc + 1 = pc') (k : q_X C F M pc' ls (va_rf v :: va_rf w :: va_rf v :: st) x) : q_X C F M pc ls (va_rf v :: va_rf w :: st) x := by subst hp; exact q_s1 hd ⟨rfl, rfl, rfl, va_rf v, va_rf w, st, (q_cat v), (q_cat w), rfl, rfl⟩ k
theorem r_dup2RR (pc' : Nat) {v : Option Nat} {w : Option Nat} (hd : decode M.2.1 pc = .ok (.dup2, 1)) (hp : pc + 1 = pc') (k : q_X C F M pc' ls (va_rf v :: va_rf w :: va_rf v :: va_rf w :: st) x) : q_X C F M pc ls (va_rf v :: va_rf w :: st) x := by subst hp; exact q_s1 hd ⟨rfl, rfl, rfl, va_rf v, va_rf w, st, (q_cat v), (q_cat w), rfl, rfl⟩ k
theorem r_if_t (pc' : Nat) {cn : ClassFile.Cond} {off : Int} {v : Int32} (hd : decode M.2.1 pc = .ok (.ifCond cn off, 3)) (ht : (pc : Int) + off = (pc' : Int)) (hc : q_cnd cn v 0) (k : q_X C F M pc' ls st x) : q_X C F M pc ls (.int v :: st) x := q_s1 hd ⟨rfl, rfl, v, pc', rfl, ht, Or.inl ⟨hc, rfl⟩⟩ k
theorem r_if_f (pc' tgt : Nat) {cn : ClassFile.Cond} {off : Int} {v : Int32} (hd : decode M.2.1 pc = .ok (.ifCond cn off, 3)) (ht : (pc : Int) + off = (tgt : Int)) (hc : ¬ q_cnd cn v 0) (hp : pc + 3 = pc') (k : q_X C F M pc' ls st x) : q_X C F M pc ls (.int v :: st) x := by subst hp; exact q_s1 hd ⟨rfl, rfl, v, tgt, rfl, ht, Or.inr ⟨hc, rfl⟩⟩ k
theorem r_ic_t (pc' : Nat) {cn : ClassFile.Cond} {off : Int} {a b : Int32} (hd : decode M.2.1 pc = .ok (.if_icmp cn off, 3)) (ht : (pc : Int) + off = (pc' : Int)) (hc : q_cnd cn a b) (k : q_X C F M pc' ls st x) : q_X C F M pc ls (.int b :: .int a :: st) x := q_s1 hd ⟨rfl, rfl, a, b, pc', rfl, ht, Or.inl ⟨hc, rfl⟩⟩ k
theorem r_ic_f (pc' tgt : Nat) {cn : ClassFile.Cond} {off : Int} {a b : Int32} (hd : decode M.2.1 pc = .ok (.if_icmp cn off, 3)) (ht : (pc : Int) + off = (tgt : Int)) (hc : ¬ q_cnd cn a b) (hp : pc + 3 = pc') (k : q_X C F M pc' ls st x) : q_X C F M pc ls (.int b :: .int a :: st) x := by subst hp; exact q_s1 hd ⟨rfl, rfl, a, b, tgt, rfl, ht, Or.inr ⟨hc, rfl⟩⟩ k
theorem r_ac_t (pc' : Nat) {cn : ClassFile.ACond} {off : Int} {a b : Option Nat} (hd : decode M.2.1 pc = .ok (.if_acmp cn off, 3)) (ht : (pc : Int) + off = (pc' : Int)) (hc : q_acn cn a b) (k : q_X C F M pc' ls st x) : q_X C F M pc ls (va_rf b :: va_rf a :: st) x := q_s1 hd ⟨rfl, rfl, a, b, pc', rfl, ht, Or.inl ⟨hc, rfl⟩⟩ k
theorem r_ac_f (pc' tgt : Nat) {cn : ClassFile.ACond} {off : Int} {a b : Option Nat} (hd : decode M.2.1 pc = .ok (.if_acmp cn off, 3)) (ht : (pc : Int) + off = (tgt : Int)) (hc : ¬ q_acn cn a b) (hp : pc + 3 = pc') (k : q_X C F M pc' ls st x) : q_X C F M pc ls (va_rf b :: va_rf a :: st) x := by subst hp; exact q_s1 hd ⟨rfl, rfl, a, b, tgt, rfl, ht, Or.inr ⟨hc, rfl⟩⟩ k
theorem r_ifnull_t (pc' : Nat) {off : Int} {r : Option Nat} (hd : decode M.2.1 pc = .ok (.ifnull off, 3)) (ht : (pc : Int) + off = (pc' : Int)) (hc : r = none) (k : q_X C F M pc' ls st x) : q_X C F M pc ls (va_rf r :: st) x := q_s1 hd ⟨rfl, rfl, r, pc', rfl, ht, Or.inl ⟨hc, rfl⟩⟩ k
theorem r_ifnull_f (pc' tgt : Nat) {off : Int} {r : Option Nat} (hd : decode M.2.1 pc = .ok (.ifnull off, 3)) (ht : (pc : Int) + off = (tgt : Int)) (hc : ¬ r = none) (hp : pc + 3 = pc') (k : q_X C F M pc' ls st x) : q_X C F M pc ls (va_rf r :: st) x := by subst hp; exact q_s1 hd ⟨rfl, rfl, r, tgt, rfl, ht, Or.inr ⟨hc, rfl⟩⟩ k
theorem r_ifnonnull_t (pc' : Nat) {off : Int} {r : Option Nat} (hd : decode M.2.1 pc = .ok (.ifnonnull off, 3)) (ht : (pc : Int) + off = (pc' : Int)) (hc : ¬ r = none) (k : q_X C F M pc' ls st x) : q_X C F M pc ls (va_rf r :: st) x := q_s1 hd ⟨rfl, rfl, r, pc', rfl, ht, Or.inl ⟨hc, rfl⟩⟩ k
theorem r_ifnonnull_f (pc' tgt : Nat) {off : Int} {r : Option Nat} (hd : decode M.2.1 pc = .ok (.ifnonnull off, 3)) (ht : (pc : Int) + off = (tgt : Int)) (hc : r = none) (hp : pc + 3 = pc') (k : q_X C F M pc' ls st x) : q_X C F M pc ls (va_rf r :: st) x := by subst hp; exact q_s1 hd ⟨rfl, rfl, r, tgt, rfl, ht, Or.inr ⟨hc, rfl⟩⟩ k
theorem r_goto (pc' : Nat) {off : Int} (hd : decode M.2.1 pc = .ok (.goto off, 3)) (ht : (pc : Int) + off = (pc' : Int)) (k : q_X C F M pc' ls st x) : q_X C F M pc ls st x := q_s1 hd ⟨rfl, rfl, rfl, pc', ht, rfl⟩ k
theorem r_swD (pc' : Nat) {d lo hi : Int} {offs : Array Int} {len : Nat} {v : Int32} (hd : decode M.2.1 pc = .ok (.tableswitch d lo hi offs, len)) (hc : v.toInt < lo ∨ hi < v.toInt) (ht : (pc : Int) + d = (pc' : Int)) (k : q_X C F M pc' ls st x) : q_X C F M pc ls (.int v :: st) x := q_s1 hd ⟨rfl, v, rfl, Or.inl ⟨hc, ht⟩⟩ k
theorem r_sw (pc' : Nat) {d lo hi off : Int} {offs : Array Int} {len : Nat} {v : Int32} (hd : decode M.2.1 pc = .ok (.tableswitch d lo hi offs, len)) (h1 : ¬ v.toInt < lo) (h2 : ¬ hi < v.toInt) (ho : offs[(v.toInt - lo).toNat]? = some off) (ht : (pc : Int) + off = (pc' : Int)) (k : q_X C F M pc' ls st x) : q_X C F M pc ls (.int v :: st) x := q_s1 hd ⟨rfl, v, rfl, Or.inr ⟨h1, h2, off, ho, ht⟩⟩ k
theorem r_getI (pc' : Nat) (i : Nat) {idx ci fk : Nat} {ref : String} {host : Option String} {ty : FieldType} {fin : Bool} {r : Option Nat} {v : Int32} (hd : decode M.2.1 pc = .ok (.getfield idx, 3)) (he : q_FL[i]? = some (M.1.cls, idx, ci, fk, ref, host, ty, fin)) (hg : q_gI x r ci fk = some v) (hp : pc + 3 = pc') (k : q_X C F M pc' ls (.int v :: st) x) : q_X C F M pc ls (va_rf r :: st) x := by
  subst hp
  obtain ⟨a, rfl, h1, h2⟩ := q_gI_sp hg
  exact q_s1 hd ⟨rfl, rfl, rfl, _, a, st, List.mem_of_getElem? he, rfl, rfl, rfl, h1, by show _ = q_fd x ci fk a :: st; rw [h2]⟩ k
theorem r_getR (pc' : Nat) (i : Nat) {idx ci fk : Nat} {ref : String} {host : Option String} {ty : FieldType} {fin : Bool} {r v : Option Nat} (hd : decode M.2.1 pc = .ok (.getfield idx, 3)) (he : q_FL[i]? = some (M.1.cls, idx, ci, fk, ref, host, ty, fin)) (hg : q_gR x r ci fk = some v) (hp : pc + 3 = pc') (k : q_X C F M pc' ls (va_rf v :: st) x) : q_X C F M pc ls (va_rf r :: st) x := by
  subst hp
  obtain ⟨a, rfl, h1, h2⟩ := q_gR_sp hg
  exact q_s1 hd ⟨rfl, rfl, rfl, _, a, st, List.mem_of_getElem? he, rfl, rfl, rfl, h1, by show _ = q_fd x ci fk a :: st; rw [h2]⟩ k
theorem r_gets (pc' : Nat) {idx : Nat} (hd : decode M.2.1 pc = .ok (.getstatic idx, 3)) (i : Nat) (he : q_SL[i]? = some (M.1.cls, idx)) (hp : pc + 3 = pc') (k : q_X C F M pc' ls (va_rf (some (q_z0 x)) :: st) x) : q_X C F M pc ls st x := by
  subst hp
  exact q_s1 hd ⟨rfl, rfl, rfl, List.mem_of_getElem? he, rfl⟩ k
theorem r_ldI (pc' t : Nat) {r : Option Nat} {i v : Int32} (hd : decode M.2.1 pc = .ok (.iaload, 1)) (ht : q_kd t = 0) (hg : q_lI x t r i = some v) (hp : pc + 1 = pc') (k : q_X C F M pc' ls (.int v :: st) x) : q_X C F M pc ls (.int i :: va_rf r :: st) x := by
  subst hp
  obtain ⟨a, y, rfl, h1, h2, rfl⟩ := q_lI_sp hg
  exact q_s1 hd ⟨rfl, rfl, rfl, a, i, st, rfl, Or.inl ⟨t, y.1, y.2, ht, h1, h2, rfl⟩⟩ k
theorem r_ldZ (pc' t : Nat) {r : Option Nat} {i v : Int32} (hd : decode M.2.1 pc = .ok (.baload, 1)) (ht : q_kd t = 1) (hg : q_lI x t r i = some v) (hp : pc + 1 = pc') (k : q_X C F M pc' ls (.int v :: st) x) : q_X C F M pc ls (.int i :: va_rf r :: st) x := by
  subst hp
  obtain ⟨a, y, rfl, h1, h2, rfl⟩ := q_lI_sp hg
  exact q_s1 hd ⟨rfl, rfl, rfl, a, i, st, t, y.1, y.2, rfl, ht, h1, h2, rfl⟩ k
theorem r_ldS (pc' : Nat) {r : Option Nat} {i v : Int32} (hd : decode M.2.1 pc = .ok (.iaload, 1)) (hg : q_lS x r i = some v) (hp : pc + 1 = pc') (k : q_X C F M pc' ls (.int v :: st) x) : q_X C F M pc ls (.int i :: va_rf r :: st) x := by
  subst hp
  unfold q_lS at hg
  rcases q_ite hg with ⟨⟨rfl, h2⟩, hg2⟩ | ⟨-, hg2⟩
  · cases hg2
    exact q_s1 hd ⟨rfl, rfl, rfl, q_sb x, i, st, rfl, Or.inr ⟨rfl, h2, rfl⟩⟩ k
  · cases hg2
theorem r_ldR (pc' t : Nat) {r v : Option Nat} {i : Int32} (hd : decode M.2.1 pc = .ok (.aaload, 1)) (hg : q_lR x t r i = some v) (hp : pc + 1 = pc') (k : q_X C F M pc' ls (va_rf v :: st) x) : q_X C F M pc ls (.int i :: va_rf r :: st) x := by
  subst hp
  obtain ⟨a, y, rfl, h1, h2, rfl⟩ := q_lR_sp hg
  exact q_s1 hd ⟨rfl, rfl, rfl, a, i, st, t, y.1, y.2, rfl, h1, h2, rfl⟩ k
theorem r_len (pc' t : Nat) {r : Option Nat} {v : Int32} (hd : decode M.2.1 pc = .ok (.arraylength, 1)) (hg : q_len x t r = some v) (hp : pc + 1 = pc') (k : q_X C F M pc' ls (.int v :: st) x) : q_X C F M pc ls (va_rf r :: st) x := by
  subst hp
  obtain ⟨a, y, rfl, h1, rfl⟩ := q_len_sp hg
  exact q_s1 hd ⟨rfl, rfl, rfl, a, st, rfl, Or.inl ⟨t, y.1, y.2, h1, rfl⟩⟩ k
theorem r_lenR (pc' t : Nat) {r : Option Nat} {v : Int32} (hd : decode M.2.1 pc = .ok (.arraylength, 1)) (hg : q_lenR x t r = some v) (hp : pc + 1 = pc') (k : q_X C F M pc' ls (.int v :: st) x) : q_X C F M pc ls (va_rf r :: st) x := by
  subst hp
  obtain ⟨a, rfl, h⟩ := q_lenR_sp hg
  rcases h with ⟨y, h1, rfl⟩ | ⟨rfl, rfl⟩
  · exact q_s1 hd ⟨rfl, rfl, rfl, a, st, rfl, Or.inr (Or.inl ⟨t, y.1, y.2, h1, rfl⟩)⟩ k
  · exact q_s1 hd ⟨rfl, rfl, rfl, q_z0 x, st, rfl, Or.inr (Or.inr (Or.inl ⟨rfl, rfl⟩))⟩ k
theorem r_lenS (pc' : Nat) {r : Option Nat} {v : Int32} (hd : decode M.2.1 pc = .ok (.arraylength, 1)) (hg : q_lenS x r = some v) (hp : pc + 1 = pc') (k : q_X C F M pc' ls (.int v :: st) x) : q_X C F M pc ls (va_rf r :: st) x := by
  subst hp
  unfold q_lenS at hg
  rcases q_ite hg with ⟨rfl, hg2⟩ | ⟨-, hg2⟩
  · cases hg2
    exact q_s1 hd ⟨rfl, rfl, rfl, q_sb x, st, rfl, Or.inr (Or.inr (Or.inr ⟨rfl, rfl⟩))⟩ k
  · cases hg2
theorem r_cast (pc' i ci : Nat) {idx : Nat} {r : Option Nat} {u : Unit} {q : vw_C} (hd : decode M.2.1 pc = .ok (.checkcast idx, 3)) (hq : qC[ci]? = some q) (he : q_KL[i]? = some (M.1.cls, idx, q.1)) (hg : q_ck x r ci = some u) (hp : pc + 3 = pc') (k : q_X C F M pc' ls (va_rf r :: st) x) : q_X C F M pc ls (va_rf r :: st) x := by
  subst hp
  cases r with
  | none => exact q_s1 hd ⟨rfl, rfl, rfl, rfl, Or.inl ⟨st, rfl⟩⟩ k
  | some a =>
    unfold q_ck at hg
    dsimp only at hg
    rcases q_ite hg with ⟨hc, -⟩ | ⟨-, hg⟩
    · exact q_s1 hd ⟨rfl, rfl, rfl, rfl, Or.inr (Or.inl ⟨a, ci, st, q, rfl, hc, hq, List.mem_of_getElem? he⟩)⟩ k
    · cases hg
theorem r_castA (pc' i t : Nat) {idx a : Nat} {r : Option Nat} (hd : decode M.2.1 pc = .ok (.checkcast idx, 3)) (he : q_KL[i]? = some (M.1.cls, idx, "[Ljava/lang/Object;")) (hg : q_aa x t r = some a) (hp : pc + 3 = pc') (k : q_X C F M pc' ls (va_rf r :: st) x) : q_X C F M pc ls (va_rf r :: st) x := by
  subst hp
  obtain ⟨rfl, y, h1⟩ := q_aa_sp hg
  exact q_s1 hd ⟨rfl, rfl, rfl, rfl, Or.inr (Or.inr ⟨a, t, y.1, y.2, st, rfl, h1, List.mem_of_getElem? he⟩)⟩ k
theorem r_ldc2 (pc' i : Nat) {idx : Nat} {v : Int64} (hd : decode M.2.1 pc = .ok (.ldc2_w idx, 3)) (he : q_DL[i]? = some (M.1.cls, idx, v)) (hp : pc + 3 = pc') (k : q_X C F M pc' ls (.long v :: st) x) : q_X C F M pc ls st x := by
  subst hp
  exact q_s1 hd ⟨rfl, rfl, rfl, v, List.mem_of_getElem? he, rfl⟩ k
theorem r_ldcM (pc' i : Nat) {idx : Nat} (hd : decode M.2.1 pc = .ok (.ldc idx, 2)) (he : q_ML[i]? = some (M.1.cls, idx)) (hp : pc + 2 = pc') (k : q_X C F M pc' ls (va_rf (some (q_mo x)) :: st) x) : q_X C F M pc ls st x := by
  subst hp
  exact q_s1 hd ⟨rfl, rfl, rfl, Or.inl ⟨List.mem_of_getElem? he, rfl⟩⟩ k
theorem r_ldcI (pc' i : Nat) {idx : Nat} {v : Int32} (hd : decode M.2.1 pc = .ok (.ldc idx, 2)) (he : q_IL[i]? = some (M.1.cls, idx, v)) (hp : pc + 2 = pc') (k : q_X C F M pc' ls (.int v :: st) x) : q_X C F M pc ls st x := by
  subst hp
  exact q_s1 hd ⟨rfl, rfl, rfl, Or.inr ⟨v, List.mem_of_getElem? he, rfl⟩⟩ k
theorem r_ldcw (pc' i : Nat) {idx : Nat} {v : Int32} (hd : decode M.2.1 pc = .ok (.ldc_w idx, 3)) (he : q_IL[i]? = some (M.1.cls, idx, v)) (hp : pc + 3 = pc') (k : q_X C F M pc' ls (.int v :: st) x) : q_X C F M pc ls st x := by
  subst hp
  exact q_s1 hd ⟨rfl, rfl, rfl, v, List.mem_of_getElem? he, rfl⟩ k
theorem r_obj (pc' i : Nat) {idx a : Nat} (hd : decode M.2.1 pc = .ok (.invokespecial idx, 3)) (he : q_OL[i]? = some (M.1.cls, idx)) (hs : (st.map fun v => v.category).sum ≤ 8) (hp : pc + 3 = pc') (k : q_X C F M pc' ls st x) : q_X C F M pc ls (va_rf (some a) :: st) x := by
  subst hp
  exact q_s1 hd ⟨rfl, rfl, rfl, List.mem_of_getElem? he, hs, a, rfl⟩ k
theorem r_getC (pc' i t : Nat) {idx a : Nat} {r : Option Nat} (hd : decode M.2.1 pc = .ok (.invokevirtual idx, 3)) (he : q_GL[i]? = some (M.1.cls, idx)) (hs : (st.map fun v => v.category).sum ≤ 8) (hg : q_aa x t r = some a) (hp : pc + 3 = pc') (k : q_X C F M pc' ls (va_rf (some (q_mo x)) :: st) x) : q_X C F M pc ls (va_rf r :: st) x := by
  subst hp
  obtain ⟨rfl, y, h1⟩ := q_aa_sp hg
  exact q_s1 hd ⟨rfl, rfl, rfl, List.mem_of_getElem? he, a, t, y.1, y.2, st, hs, rfl, h1, rfl⟩ k
theorem r_max (pc' i : Nat) {idx : Nat} {a b : Int32} (hd : decode M.2.1 pc = .ok (.invokestatic idx, 3)) (he : q_XL[i]? = some (M.1.cls, idx)) (hs : (st.map fun v => v.category).sum ≤ 8) (hp : pc + 3 = pc') (k : q_X C F M pc' ls (.int (if a < b then b else a) :: st) x) : q_X C F M pc ls (.int b :: .int a :: st) x := by
  subst hp
  exact q_s1 hd ⟨rfl, rfl, rfl, a, b, st, hs, rfl, Or.inl ⟨List.mem_of_getElem? he, rfl⟩⟩ k
theorem r_min (pc' i : Nat) {idx : Nat} {a b : Int32} (hd : decode M.2.1 pc = .ok (.invokestatic idx, 3)) (he : q_VL[i]? = some (M.1.cls, idx)) (hs : (st.map fun v => v.category).sum ≤ 8) (hp : pc + 3 = pc') (k : q_X C F M pc' ls (.int (if b < a then b else a) :: st) x) : q_X C F M pc ls (.int b :: .int a :: st) x := by
  subst hp
  exact q_s1 hd ⟨rfl, rfl, rfl, a, b, st, hs, rfl, Or.inr ⟨List.mem_of_getElem? he, rfl⟩⟩ k
theorem r_putI (pc' : Nat) (i : Nat) {idx ci fk : Nat} {ref : String} {host : Option String} {ty : FieldType} {fin : Bool} {r : Option Nat} {v : Int32} {x1 : q_S} (hd : decode M.2.1 pc = .ok (.putfield idx, 3)) (he : q_FL[i]? = some (M.1.cls, idx, ci, fk, ref, host, ty, fin)) (hty : ty = .int) (hff : fin = false ∨ (host = none ∧ M.1.name = "<init>")) (hg : q_pI x r ci fk v = some x1) (hp : pc + 3 = pc') (k : q_X C F M pc' ls st x1) : q_X C F M pc ls (.int v :: va_rf r :: st) x := by
  subst hp
  subst hty
  obtain ⟨a, rfl, h1, rfl⟩ := q_pI_sp hg
  exact q_s2 hd ⟨rfl, rfl, rfl, _, a, .int v, List.mem_of_getElem? he, rfl, rfl, rfl, h1, rfl, rfl, hff, rfl⟩ k
theorem r_putZ (pc' : Nat) (i : Nat) {idx ci fk : Nat} {ref : String} {host : Option String} {ty : FieldType} {fin : Bool} {r : Option Nat} {v : Int32} {x1 : q_S} (hd : decode M.2.1 pc = .ok (.putfield idx, 3)) (he : q_FL[i]? = some (M.1.cls, idx, ci, fk, ref, host, ty, fin)) (hty : ty = .boolean) (hff : fin = false ∨ (host = none ∧ M.1.name = "<init>")) (hg : q_pZ x r ci fk v = some x1) (hp : pc + 3 = pc') (k : q_X C F M pc' ls st x1) : q_X C F M pc ls (.int v :: va_rf r :: st) x := by
  subst hp
  subst hty
  obtain ⟨a, rfl, h1, h2, rfl⟩ := q_pZ_sp hg
  refine q_s2 hd ⟨rfl, rfl, rfl, _, a, .int v, List.mem_of_getElem? he, rfl, rfl, rfl, h1, ?_, ?_, hff, rfl⟩ k
  · show narrow .boolean (.int v) = .int v
    rcases h2 with rfl | rfl <;> decide
  · show fits .boolean (.int v) = true
    rcases h2 with rfl | rfl <;> decide
theorem r_putR (pc' : Nat) (i : Nat) {idx ci fk : Nat} {ref : String} {host : Option String} {ty : FieldType} {fin : Bool} {r v : Option Nat} {x1 : q_S} {cn : String} (hd : decode M.2.1 pc = .ok (.putfield idx, 3)) (he : q_FL[i]? = some (M.1.cls, idx, ci, fk, ref, host, ty, fin)) (hty : ty = .object cn) (hff : fin = false ∨ (host = none ∧ M.1.name = "<init>")) (hg : q_pR x r ci fk v = some x1) (hp : pc + 3 = pc') (k : q_X C F M pc' ls st x1) : q_X C F M pc ls (va_rf v :: va_rf r :: st) x := by
  subst hp
  subst hty
  obtain ⟨a, rfl, h1, rfl⟩ := q_pR_sp hg
  exact q_s2 hd ⟨rfl, rfl, rfl, _, a, va_rf v, List.mem_of_getElem? he, rfl, rfl, rfl, h1, by cases v <;> rfl, by cases v <;> rfl, hff, rfl⟩ k
theorem r_putA (pc' : Nat) (i : Nat) {idx ci fk : Nat} {ref : String} {host : Option String} {ty : FieldType} {fin : Bool} {r v : Option Nat} {x1 : q_S} {cn : FieldType} (hd : decode M.2.1 pc = .ok (.putfield idx, 3)) (he : q_FL[i]? = some (M.1.cls, idx, ci, fk, ref, host, ty, fin)) (hty : ty = .array cn) (hff : fin = false ∨ (host = none ∧ M.1.name = "<init>")) (hg : q_pR x r ci fk v = some x1) (hp : pc + 3 = pc') (k : q_X C F M pc' ls st x1) : q_X C F M pc ls (va_rf v :: va_rf r :: st) x := by
  subst hp
  subst hty
  obtain ⟨a, rfl, h1, rfl⟩ := q_pR_sp hg
  exact q_s2 hd ⟨rfl, rfl, rfl, _, a, va_rf v, List.mem_of_getElem? he, rfl, rfl, rfl, h1, by cases v <;> rfl, by cases v <;> rfl, hff, rfl⟩ k
theorem r_stI (pc' t : Nat) {r : Option Nat} {i v : Int32} {x1 : q_S} (hd : decode M.2.1 pc = .ok (.iastore, 1)) (ht : q_kd t = 0) (hg : q_sI x t r i v = some x1) (hp : pc + 1 = pc') (k : q_X C F M pc' ls st x1) : q_X C F M pc ls (.int v :: .int i :: va_rf r :: st) x := by
  subst hp
  obtain ⟨a, y, rfl, h1, h2, rfl⟩ := q_sI_sp hg
  exact q_s2 hd ⟨rfl, rfl, rfl, a, t, y.1, i, v, y.2, rfl, ht, h1, h2, rfl⟩ k
theorem r_stZ (pc' t : Nat) {r : Option Nat} {i v : Int32} {x1 : q_S} (hd : decode M.2.1 pc = .ok (.bastore, 1)) (ht : q_kd t = 1) (hg : q_sI x t r i (v &&& 1) = some x1) (hp : pc + 1 = pc') (k : q_X C F M pc' ls st x1) : q_X C F M pc ls (.int v :: .int i :: va_rf r :: st) x := by
  subst hp
  obtain ⟨a, y, rfl, h1, h2, rfl⟩ := q_sI_sp hg
  exact q_s2 hd ⟨rfl, rfl, rfl, a, t, y.1, i, v, y.2, rfl, ht, h1, h2, rfl⟩ k
theorem r_stR (pc' t : Nat) {r v : Option Nat} {i : Int32} {x1 : q_S} (hd : decode M.2.1 pc = .ok (.aastore, 1)) (hg : q_sR x t r i v = some x1) (hp : pc + 1 = pc') (k : q_X C F M pc' ls st x1) : q_X C F M pc ls (va_rf v :: .int i :: va_rf r :: st) x := by
  subst hp
  obtain ⟨a, y, rfl, h1, h2, h3, rfl⟩ := q_sR_sp hg
  exact q_s2 hd ⟨rfl, rfl, rfl, a, t, y.1, i, v, y.2, rfl, h1, h2, h3, rfl⟩ k
theorem r_new (pc' i : Nat) {idx ci : Nat} {dv : List Value} {x1 : q_S} (hd : decode M.2.1 pc = .ok (.new idx, 3)) (he : q_NL[i]? = some (M.1.cls, idx, ci, dv)) (hg : q_nO x ci dv = some x1) (hp : pc + 3 = pc') (k : q_X C F M pc' ls (va_rf (some (q_sz x)) :: st) x1) : q_X C F M pc ls st x := by
  subst hp
  cases hg
  exact q_s2 hd ⟨rfl, rfl, rfl, _, List.mem_of_getElem? he, rfl, rfl, rfl, rfl⟩ k
theorem r_newI (pc' t : Nat) {v : Int32} {x1 : q_S} (hd : decode M.2.1 pc = .ok (.newarray .int, 2)) (ht : q_kd t = 0) (hg : q_nI x t v = some x1) (hp : pc + 2 = pc') (k : q_X C F M pc' ls (va_rf (some (q_sz x)) :: st) x1) : q_X C F M pc ls (.int v :: st) x := by
  subst hp
  obtain ⟨h1, h2, rfl⟩ := q_nI_sp hg
  exact q_s2 hd ⟨rfl, rfl, rfl, v, t, st, rfl, h1, h2, Or.inl ⟨rfl, ht⟩, rfl, rfl⟩ k
theorem r_newZ (pc' t : Nat) {v : Int32} {x1 : q_S} (hd : decode M.2.1 pc = .ok (.newarray .boolean, 2)) (ht : q_kd t = 1) (hg : q_nI x t v = some x1) (hp : pc + 2 = pc') (k : q_X C F M pc' ls (va_rf (some (q_sz x)) :: st) x1) : q_X C F M pc ls (.int v :: st) x := by
  subst hp
  obtain ⟨h1, h2, rfl⟩ := q_nI_sp hg
  exact q_s2 hd ⟨rfl, rfl, rfl, v, t, st, rfl, h1, h2, Or.inr ⟨rfl, ht⟩, rfl, rfl⟩ k
theorem r_newR (pc' t i : Nat) {idx : Nat} {v : Int32} {x1 : q_S} (hd : decode M.2.1 pc = .ok (.anewarray idx, 3)) (he : q_QL[i]? = some (M.1.cls, idx)) (hg : q_nR x t v = some x1) (hp : pc + 3 = pc') (k : q_X C F M pc' ls (va_rf (some (q_sz x)) :: st) x1) : q_X C F M pc ls (.int v :: st) x := by
  subst hp
  obtain ⟨h1, h2, rfl⟩ := q_nR_sp hg
  exact q_s2 hd ⟨rfl, rfl, rfl, List.mem_of_getElem? he, v, t, st, rfl, h1, h2, rfl, rfl⟩ k
theorem q_cp_sp {t : Nat} {r0 r1 : Option Nat} {sp dp n : Int32} {x1 : q_S} (h : q_cp x t r0 sp r1 dp n = some x1) : ∃ a0 a1 y z, r0 = some a0 ∧ r1 = some a1 ∧ q_ar x t a0 = some y ∧ q_ar x t a1 = some z ∧ ¬ sp < 0 ∧ ¬ dp < 0 ∧ ¬ n < 0 ∧ sp.toNatClampNeg + n.toNatClampNeg ≤ y.1 ∧ dp.toNatClampNeg + n.toNatClampNeg ≤ z.1 ∧ (∀ i : Nat, i < n.toNatClampNeg → ∀ b : Nat, y.2 (sp.toNatClampNeg + i) = some b → ∃ ci, q_al x ci b = true ∧ ci ∈ q_AL) ∧ x1 = q_putR x t a1 z.1 (va_cpy y.2 z.2 sp.toNatClampNeg dp.toNatClampNeg n.toNatClampNeg) := by
  unfold q_cp at h
  split at h
  · next a0 a1 =>
    split at h
    · next y z e1 e2 =>
      rcases q_ite h with ⟨-, h⟩ | ⟨hc, h⟩
      · cases h
      · cases h
        simp only [not_or] at hc
        obtain ⟨c1, c2, c3, c4, c5, c6⟩ := hc
        refine ⟨a0, a1, y, z, rfl, rfl, e1, e2, c1, c2, c3, by omega, by omega, fun i hi => ?_, rfl⟩
        have c7 : (List.range n.toNatClampNeg).all (fun i => q_ok x (y.2 (sp.toNatClampNeg + i))) = true := by
          cases hk : (List.range n.toNatClampNeg).all (fun i => q_ok x (y.2 (sp.toNatClampNeg + i))) with
          | true => rfl
          | false => exact absurd hk c6
        exact q_ok_sp (List.all_eq_true.mp c7 i (List.mem_range.mpr hi))
    · cases h
  · cases h
theorem r_copy (pc' t i : Nat) {idx : Nat} {r0 r1 : Option Nat} {sp dp n : Int32} {x1 : q_S} (hd : decode M.2.1 pc = .ok (.invokestatic idx, 3)) (he : q_YL[i]? = some (M.1.cls, idx)) (hs : (st.map fun v => v.category).sum ≤ 8) (hg : q_cp x t r0 sp r1 dp n = some x1) (hp : pc + 3 = pc') (k : q_X C F M pc' ls st x1) : q_X C F M pc ls (.int n :: .int dp :: va_rf r1 :: .int sp :: va_rf r0 :: st) x := by
  subst hp
  obtain ⟨a0, a1, y, z, rfl, rfl, h1, h2, h3, h4, h5, h6, h7, h8, rfl⟩ := q_cp_sp hg
  exact q_s2 hd ⟨rfl, rfl, rfl, List.mem_of_getElem? he, hs, n, dp, sp, a0, a1, t, t, y.1, z.1, y.2, z.2, rfl, h1, h2, h3, h4, h5, h6, h7, h8, rfl⟩ k
theorem r_cS (pc' i : Nat) {idx : Nat} {M' : q_M} {host : Option String} (av st' : List Value) {x1 : q_S} {r : Option Value} (hd : decode M.2.1 pc = .ok (.invokestatic idx, 3)) (he : q_CS[i]? = some (M.1.cls, idx, M', host)) (hst : st = av.reverse ++ rest) (hn : av.length = M'.2.2.2.2) (hs : (rest.map fun v => v.category).sum ≤ 8) (hc : C M' av x x1 r) (hs' : r.toList ++ rest = st') (hp : pc + 3 = pc') (k : q_X C F M pc' ls st' x1) : q_X C F M pc ls st x := by
  subst hp
  subst hs'
  exact q_s3 hd ⟨rfl, hs, hn, hst, host, List.mem_of_getElem? he⟩ hc k
theorem r_cI (pc' i : Nat) {idx b : Nat} {M' : q_M} {host : Option String} (as st' : List Value) {x1 : q_S} {r : Option Value} (hd : decode M.2.1 pc = .ok (.invokespecial idx, 3)) (he : q_CI[i]? = some (M.1.cls, idx, M', host)) (hst : st = as.reverse ++ va_rf (some b) :: rest) (hn : as.length = M'.2.2.2.2) (hs : (rest.map fun v => v.category).sum ≤ 8) (hc : C M' (va_rf (some b) :: as) x x1 r) (hs' : r.toList ++ rest = st') (hp : pc + 3 = pc') (k : q_X C F M pc' ls st' x1) : q_X C F M pc ls st x := by
  subst hp
  subst hs'
  exact q_s3 hd ⟨rfl, hs, b, as, host, rfl, hn, hst, List.mem_of_getElem? he⟩ hc k
theorem r_cV (pc' i ci : Nat) {idx b : Nat} {M' : q_M} {host : Option String} {r0 : Option Nat} (as st' : List Value) {x1 : q_S} {r : Option Value} {q : vw_C} (hd : decode M.2.1 pc = .ok (.invokevirtual idx, 3)) (he : q_CV[i]? = some (M.1.cls, idx, M', host)) (hg : q_av x r0 ci = some b) (hq : qC[ci]? = some q) (hqc : q.1 = M'.1.cls) (hst : st = as.reverse ++ va_rf r0 :: rest) (hn : as.length = M'.2.2.2.2) (hs : (rest.map fun v => v.category).sum ≤ 8) (hc : C M' (va_rf (some b) :: as) x x1 r) (hs' : r.toList ++ rest = st') (hp : pc + 3 = pc') (k : q_X C F M pc' ls st' x1) : q_X C F M pc ls st x := by
  subst hp
  subst hs'
  obtain ⟨rfl, h1⟩ := q_av_sp hg
  exact q_s3 hd ⟨rfl, hs, b, ci, as, host, q, rfl, hn, hst, List.mem_of_getElem? he, h1, hq, hqc⟩ hc k
theorem r_iret {v : Int32} (hd : decode M.2.1 pc = .ok (.ireturn, 1)) (hr : M.2.2.2.1 = some .int) (hf : F x (some (.int v))) : q_X C F M pc ls [.int v] x := q_s4 hd ⟨rfl, v, rfl, rfl, Or.inl hr⟩ hf
theorem r_zret {v : Int32} (hd : decode M.2.1 pc = .ok (.ireturn, 1)) (hr : M.2.2.2.1 = some .boolean) (hv : v &&& 1 = v) (hf : F x (some (.int v))) : q_X C F M pc ls [.int v] x := q_s4 hd ⟨rfl, v, rfl, rfl, Or.inr ⟨hr, hv⟩⟩ hf
theorem r_lret {v : Int64} (hd : decode M.2.1 pc = .ok (.lreturn, 1)) (hr : M.2.2.2.1 = some .long) (hf : F x (some (.long v))) : q_X C F M pc ls [.long v] x := q_s4 hd ⟨rfl, v, rfl, rfl, hr⟩ hf
theorem r_aretO {v : Option Nat} {cn : String} (hd : decode M.2.1 pc = .ok (.areturn, 1)) (hr : M.2.2.2.1 = some (.object cn)) (hf : F x (some (va_rf v))) : q_X C F M pc ls [va_rf v] x := q_s4 hd ⟨rfl, v, _, rfl, rfl, hr, Or.inl ⟨cn, rfl⟩⟩ hf
theorem r_aretA {v : Option Nat} {cn : FieldType} (hd : decode M.2.1 pc = .ok (.areturn, 1)) (hr : M.2.2.2.1 = some (.array cn)) (hf : F x (some (va_rf v))) : q_X C F M pc ls [va_rf v] x := q_s4 hd ⟨rfl, v, _, rfl, rfl, hr, Or.inr ⟨cn, rfl⟩⟩ hf
theorem r_vret (hd : decode M.2.1 pc = .ok (.return_, 1)) (hr : M.2.2.2.1 = none) (hf : F x none) : q_X C F M pc ls [] x := q_s4 hd ⟨rfl, rfl, rfl, hr⟩ hf
theorem q_s8 {l : List Value} (h : l.length ≤ 4) : (l.map fun v => v.category).sum ≤ 8 := by
  have key : ∀ l : List Value, (l.map fun v => v.category).sum ≤ 2 * l.length := by
    intro l
    induction l with
    | nil => exact Nat.le_refl _
    | cons v t ih =>
      have hv : v.category ≤ 2 := by rcases lv_cat v with h | h <;> omega
      rw [List.map_cons, List.sum_cons, List.length_cons]
      omega
  exact Nat.le_trans (key l) (by omega)
end QROW
