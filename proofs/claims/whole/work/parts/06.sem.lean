/-- one instruction that leaves the state as it is -/
def q_smp (M : q_M) (pc : Nat) (ins : ClassFile.Instr) (len : Nat) (ls : List (Nat × Value)) (st : List Value) (x : q_S) (pc' : Nat) (ls' : List (Nat × Value)) (st' : List Value) : Prop :=
  match ins with
  | .iconst n => len = 1 ∧ pc' = pc + 1 ∧ ls' = ls ∧ st' = .int (Int32.ofInt n) :: st
  | .bipush n => len = 2 ∧ pc' = pc + 2 ∧ ls' = ls ∧ st' = .int (Int8.ofInt n).toInt32 :: st
  | .sipush n => len = 3 ∧ pc' = pc + 3 ∧ ls' = ls ∧ st' = .int (Int16.ofInt n).toInt32 :: st
  | .aconst_null => len = 1 ∧ pc' = pc + 1 ∧ ls' = ls ∧ st' = .null :: st
  | .iload_n k => len = 1 ∧ pc' = pc + 1 ∧ ls' = ls ∧ ∃ v : Int32, (k.val, Value.int v) ∈ ls ∧ st' = .int v :: st
  | .iload k => len = 2 ∧ pc' = pc + 2 ∧ ls' = ls ∧ ∃ v : Int32, (k, Value.int v) ∈ ls ∧ st' = .int v :: st
  | .aload_n k => len = 1 ∧ pc' = pc + 1 ∧ ls' = ls ∧ ∃ r : Option Nat, (k.val, va_rf r) ∈ ls ∧ st' = va_rf r :: st
  | .aload k => len = 2 ∧ pc' = pc + 2 ∧ ls' = ls ∧ ∃ r : Option Nat, (k, va_rf r) ∈ ls ∧ st' = va_rf r :: st
  | .istore_n k => len = 1 ∧ pc' = pc + 1 ∧ k.val < M.2.2.1 ∧ ∃ v : Int32, st = .int v :: st' ∧ ls' = q_st1 ls k.val (.int v)
  | .istore k => len = 2 ∧ pc' = pc + 2 ∧ k < M.2.2.1 ∧ ∃ v : Int32, st = .int v :: st' ∧ ls' = q_st1 ls k (.int v)
  | .astore_n k => len = 1 ∧ pc' = pc + 1 ∧ k.val < M.2.2.1 ∧ ∃ r : Option Nat, st = va_rf r :: st' ∧ ls' = q_st1 ls k.val (va_rf r)
  | .astore k => len = 2 ∧ pc' = pc + 2 ∧ k < M.2.2.1 ∧ ∃ r : Option Nat, st = va_rf r :: st' ∧ ls' = q_st1 ls k (va_rf r)
  | .iinc i n => len = 3 ∧ pc' = pc + 3 ∧ i < M.2.2.1 ∧ st' = st ∧ ∃ v : Int32, (i, Value.int v) ∈ ls ∧ ls' = q_st1 ls i (.int (v + Int32.ofInt n))
  | .iadd => len = 1 ∧ pc' = pc + 1 ∧ ls' = ls ∧ ∃ (a b : Int32) (rest : List Value), st = .int b :: .int a :: rest ∧ st' = .int (a + b) :: rest
  | .isub => len = 1 ∧ pc' = pc + 1 ∧ ls' = ls ∧ ∃ (a b : Int32) (rest : List Value), st = .int b :: .int a :: rest ∧ st' = .int (a - b) :: rest
  | .imul => len = 1 ∧ pc' = pc + 1 ∧ ls' = ls ∧ ∃ (a b : Int32) (rest : List Value), st = .int b :: .int a :: rest ∧ st' = .int (a * b) :: rest
  | .iand => len = 1 ∧ pc' = pc + 1 ∧ ls' = ls ∧ ∃ (a b : Int32) (rest : List Value), st = .int b :: .int a :: rest ∧ st' = .int (a &&& b) :: rest
  | .ior => len = 1 ∧ pc' = pc + 1 ∧ ls' = ls ∧ ∃ (a b : Int32) (rest : List Value), st = .int b :: .int a :: rest ∧ st' = .int (a ||| b) :: rest
  | .ixor => len = 1 ∧ pc' = pc + 1 ∧ ls' = ls ∧ ∃ (a b : Int32) (rest : List Value), st = .int b :: .int a :: rest ∧ st' = .int (a ^^^ b) :: rest
  | .irem => len = 1 ∧ pc' = pc + 1 ∧ ls' = ls ∧ ∃ (a b : Int32) (rest : List Value), ¬ b = 0 ∧ st = .int b :: .int a :: rest ∧ st' = .int (a - a / b * b) :: rest
  | .ishl => len = 1 ∧ pc' = pc + 1 ∧ ls' = ls ∧ ∃ (a b : Int32) (rest : List Value), st = .int b :: .int a :: rest ∧ st' = .int (a <<< (b &&& 31)) :: rest
  | .ishr => len = 1 ∧ pc' = pc + 1 ∧ ls' = ls ∧ ∃ (a b : Int32) (rest : List Value), st = .int b :: .int a :: rest ∧ st' = .int (a >>> (b &&& 31)) :: rest
  | .iushr => len = 1 ∧ pc' = pc + 1 ∧ ls' = ls ∧ ∃ (a b : Int32) (rest : List Value), st = .int b :: .int a :: rest ∧ st' = .int ((a.toUInt32 >>> (b.toUInt32 &&& Int32.toUInt32 31)).toInt32) :: rest
  | .ineg => False
  | .i2l => len = 1 ∧ pc' = pc + 1 ∧ ls' = ls ∧ ∃ (a : Int32) (rest : List Value), st = .int a :: rest ∧ st' = .long a.toInt64 :: rest
  | .lcmp => len = 1 ∧ pc' = pc + 1 ∧ ls' = ls ∧ ∃ (a b : Int64) (rest : List Value), st = .long b :: .long a :: rest ∧ st' = .int (lg_cmp a b) :: rest
  | .dup => len = 1 ∧ pc' = pc + 1 ∧ ls' = ls ∧ ∃ (v : Value) (rest : List Value), v.category = 1 ∧ st = v :: rest ∧ st' = v :: v :: rest
  | .pop => len = 1 ∧ pc' = pc + 1 ∧ ls' = ls ∧ ∃ (v : Value), v.category = 1 ∧ st = v :: st'
  | .dup_x1 => len = 1 ∧ pc' = pc + 1 ∧ ls' = ls ∧ ∃ (v w : Value) (rest : List Value), v.category = 1 ∧ w.category = 1 ∧ st = v :: w :: rest ∧ st' = v :: w :: v :: rest
  | .dup2 => len = 1 ∧ pc' = pc + 1 ∧ ls' = ls ∧ ∃ (v w : Value) (rest : List Value), v.category = 1 ∧ w.category = 1 ∧ st = v :: w :: rest ∧ st' = v :: w :: v :: w :: rest
  | .ifCond c off => len = 3 ∧ ls' = ls ∧ ∃ (v : Int32) (tgt : Nat), st = .int v :: st' ∧ (pc : Int) + off = (tgt : Int) ∧ ((q_cnd c v 0 ∧ pc' = tgt) ∨ (¬ q_cnd c v 0 ∧ pc' = pc + 3))
  | .if_icmp c off => len = 3 ∧ ls' = ls ∧ ∃ (a b : Int32) (tgt : Nat), st = .int b :: .int a :: st' ∧ (pc : Int) + off = (tgt : Int) ∧ ((q_cnd c a b ∧ pc' = tgt) ∨ (¬ q_cnd c a b ∧ pc' = pc + 3))
  | .if_acmp c off => len = 3 ∧ ls' = ls ∧ ∃ (a b : Option Nat) (tgt : Nat), st = va_rf b :: va_rf a :: st' ∧ (pc : Int) + off = (tgt : Int) ∧ ((q_acn c a b ∧ pc' = tgt) ∨ (¬ q_acn c a b ∧ pc' = pc + 3))
  | .ifnull off => len = 3 ∧ ls' = ls ∧ ∃ (r : Option Nat) (tgt : Nat), st = va_rf r :: st' ∧ (pc : Int) + off = (tgt : Int) ∧ ((r = none ∧ pc' = tgt) ∨ (¬ r = none ∧ pc' = pc + 3))
  | .ifnonnull off => len = 3 ∧ ls' = ls ∧ ∃ (r : Option Nat) (tgt : Nat), st = va_rf r :: st' ∧ (pc : Int) + off = (tgt : Int) ∧ ((¬ r = none ∧ pc' = tgt) ∨ (r = none ∧ pc' = pc + 3))
  | .goto off => len = 3 ∧ ls' = ls ∧ st' = st ∧ ∃ tgt : Nat, (pc : Int) + off = (tgt : Int) ∧ pc' = tgt
  | .getfield idx => len = 3 ∧ pc' = pc + 3 ∧ ls' = ls ∧ ∃ (e : q_F) (a : Nat) (rest : List Value), e ∈ q_FL ∧ e.1 = M.1.cls ∧ e.2.1 = idx ∧ st = .ref a :: rest ∧ q_al x e.2.2.1 a = true ∧ st' = q_fd x e.2.2.1 e.2.2.2.1 a :: rest
  | .getstatic idx => len = 3 ∧ pc' = pc + 3 ∧ ls' = ls ∧ (M.1.cls, idx) ∈ q_SL ∧ st' = .ref (q_z0 x) :: st
  | .iaload => len = 1 ∧ pc' = pc + 1 ∧ ls' = ls ∧ ∃ (a : Nat) (i : Int32) (rest : List Value), st = .int i :: .ref a :: rest ∧ ((∃ (t n : Nat) (f : Nat → Int32), q_kd t = 0 ∧ q_ai x t a = some (n, f) ∧ vp_in i n ∧ st' = .int (f i.toNatClampNeg) :: rest) ∨ (a = q_sb x ∧ vp_in i (q_sL x) ∧ st' = .int (q_sx x i.toNatClampNeg) :: rest))
  | .baload => len = 1 ∧ pc' = pc + 1 ∧ ls' = ls ∧ ∃ (a : Nat) (i : Int32) (rest : List Value) (t n : Nat) (f : Nat → Int32), st = .int i :: .ref a :: rest ∧ q_kd t = 1 ∧ q_ai x t a = some (n, f) ∧ vp_in i n ∧ st' = .int (f i.toNatClampNeg) :: rest
  | .aaload => len = 1 ∧ pc' = pc + 1 ∧ ls' = ls ∧ ∃ (a : Nat) (i : Int32) (rest : List Value) (t n : Nat) (f : Nat → Option Nat), st = .int i :: .ref a :: rest ∧ q_ar x t a = some (n, f) ∧ vp_in i n ∧ st' = va_rf (f i.toNatClampNeg) :: rest
  | .arraylength => len = 1 ∧ pc' = pc + 1 ∧ ls' = ls ∧ ∃ (a : Nat) (rest : List Value), st = .ref a :: rest ∧ ((∃ (t n : Nat) (f : Nat → Int32), q_ai x t a = some (n, f) ∧ st' = .int (Int32.ofNat n) :: rest) ∨ (∃ (t n : Nat) (f : Nat → Option Nat), q_ar x t a = some (n, f) ∧ st' = .int (Int32.ofNat n) :: rest) ∨ (a = q_z0 x ∧ st' = .int (Int32.ofNat 0) :: rest) ∨ (a = q_sb x ∧ st' = .int (Int32.ofNat (q_sL x)) :: rest))
  | .checkcast idx => len = 3 ∧ pc' = pc + 3 ∧ ls' = ls ∧ st' = st ∧ ((∃ rest : List Value, st = .null :: rest) ∨ (∃ (a ci : Nat) (rest : List Value) (q : vw_C), st = .ref a :: rest ∧ q_al x ci a = true ∧ qC[ci]? = some q ∧ (M.1.cls, idx, q.1) ∈ q_KL) ∨ (∃ (a t n : Nat) (f : Nat → Option Nat) (rest : List Value), st = .ref a :: rest ∧ q_ar x t a = some (n, f) ∧ (M.1.cls, idx, "[Ljava/lang/Object;") ∈ q_KL))
  | .ldc2_w idx => len = 3 ∧ pc' = pc + 3 ∧ ls' = ls ∧ ∃ v : Int64, (M.1.cls, idx, v) ∈ q_DL ∧ st' = .long v :: st
  | .ldc idx => len = 2 ∧ pc' = pc + 2 ∧ ls' = ls ∧ (((M.1.cls, idx) ∈ q_ML ∧ st' = .ref (q_mo x) :: st) ∨ ∃ v : Int32, (M.1.cls, idx, v) ∈ q_IL ∧ st' = .int v :: st)
  | .ldc_w idx => len = 3 ∧ pc' = pc + 3 ∧ ls' = ls ∧ ∃ v : Int32, (M.1.cls, idx, v) ∈ q_IL ∧ st' = .int v :: st
  | .tableswitch d lo hi offs => ls' = ls ∧ ∃ v : Int32, st = .int v :: st' ∧ (((v.toInt < lo ∨ hi < v.toInt) ∧ (pc : Int) + d = (pc' : Int)) ∨ (¬ v.toInt < lo ∧ ¬ hi < v.toInt ∧ ∃ off : Int, offs[(v.toInt - lo).toNat]? = some off ∧ (pc : Int) + off = (pc' : Int)))
  | .invokespecial idx => len = 3 ∧ pc' = pc + 3 ∧ ls' = ls ∧ (M.1.cls, idx) ∈ q_OL ∧ (st'.map fun v => v.category).sum ≤ 8 ∧ ∃ a : Nat, st = .ref a :: st'
  | .invokestatic idx => len = 3 ∧ pc' = pc + 3 ∧ ls' = ls ∧ ∃ (a b : Int32) (rest : List Value), (rest.map fun v => v.category).sum ≤ 8 ∧ st = .int b :: .int a :: rest ∧ (((M.1.cls, idx) ∈ q_XL ∧ st' = .int (if a < b then b else a) :: rest) ∨ ((M.1.cls, idx) ∈ q_VL ∧ st' = .int (if b < a then b else a) :: rest))
  | .invokevirtual idx => len = 3 ∧ pc' = pc + 3 ∧ ls' = ls ∧ (M.1.cls, idx) ∈ q_GL ∧ ∃ (a t n : Nat) (f : Nat → Option Nat) (rest : List Value), (rest.map fun v => v.category).sum ≤ 8 ∧ st = .ref a :: rest ∧ q_ar x t a = some (n, f) ∧ st' = .ref (q_mo x) :: rest
  | _ => False
/-- one instruction that changes the state -/
def q_hp (M : q_M) (pc : Nat) (ins : ClassFile.Instr) (len : Nat) (ls : List (Nat × Value)) (st : List Value) (x : q_S) (pc' : Nat) (ls' : List (Nat × Value)) (st' : List Value) (x' : q_S) : Prop :=
  match ins with
  | .putfield idx => len = 3 ∧ pc' = pc + 3 ∧ ls' = ls ∧ ∃ (e : q_F) (a : Nat) (v : Value), e ∈ q_FL ∧ e.1 = M.1.cls ∧ e.2.1 = idx ∧ st = v :: .ref a :: st' ∧ q_al x e.2.2.1 a = true ∧ narrow e.2.2.2.2.2.2.1 v = v ∧ fits e.2.2.2.2.2.2.1 v = true ∧ (e.2.2.2.2.2.2.2 = false ∨ (e.2.2.2.2.2.1 = none ∧ M.1.name = "<init>")) ∧ x' = q_putF x e.2.2.1 e.2.2.2.1 a v
  | .iastore => len = 1 ∧ pc' = pc + 1 ∧ ls' = ls ∧ ∃ (a t n : Nat) (i v : Int32) (f : Nat → Int32), st = .int v :: .int i :: .ref a :: st' ∧ q_kd t = 0 ∧ q_ai x t a = some (n, f) ∧ vp_in i n ∧ x' = q_putI x t a n (upd f i.toNatClampNeg v)
  | .bastore => len = 1 ∧ pc' = pc + 1 ∧ ls' = ls ∧ ∃ (a t n : Nat) (i v : Int32) (f : Nat → Int32), st = .int v :: .int i :: .ref a :: st' ∧ q_kd t = 1 ∧ q_ai x t a = some (n, f) ∧ vp_in i n ∧ x' = q_putI x t a n (upd f i.toNatClampNeg (v &&& 1))
  | .aastore => len = 1 ∧ pc' = pc + 1 ∧ ls' = ls ∧ ∃ (a t n : Nat) (i : Int32) (r : Option Nat) (f : Nat → Option Nat), st = va_rf r :: .int i :: .ref a :: st' ∧ q_ar x t a = some (n, f) ∧ vp_in i n ∧ (∀ v : Nat, r = some v → ∃ ci, q_al x ci v = true ∧ ci ∈ q_AL) ∧ x' = q_putR x t a n (va_up f i.toNatClampNeg r)
  | .new idx => len = 3 ∧ pc' = pc + 3 ∧ ls' = ls ∧ ∃ e : q_N, e ∈ q_NL ∧ e.1 = M.1.cls ∧ e.2.1 = idx ∧ st' = .ref (q_sz x) :: st ∧ x' = q_newO x e.2.2.1 e.2.2.2.length (vp_V e.2.2.2)
  | .newarray ty => len = 2 ∧ pc' = pc + 2 ∧ ls' = ls ∧ ∃ (v : Int32) (t : Nat) (rest : List Value), st = .int v :: rest ∧ ¬ v < 0 ∧ v.toNatClampNeg ≤ 100000 ∧ ((ty = .int ∧ q_kd t = 0) ∨ (ty = .boolean ∧ q_kd t = 1)) ∧ st' = .ref (q_sz x) :: rest ∧ x' = q_newI x t v.toNatClampNeg
  | .anewarray idx => len = 3 ∧ pc' = pc + 3 ∧ ls' = ls ∧ (M.1.cls, idx) ∈ q_QL ∧ ∃ (v : Int32) (t : Nat) (rest : List Value), st = .int v :: rest ∧ ¬ v < 0 ∧ v.toNatClampNeg ≤ 100000 ∧ st' = .ref (q_sz x) :: rest ∧ x' = q_newR x t v.toNatClampNeg
  | .invokestatic idx => len = 3 ∧ pc' = pc + 3 ∧ ls' = ls ∧ (M.1.cls, idx) ∈ q_YL ∧ (st'.map fun v => v.category).sum ≤ 8 ∧ ∃ (n dp sp : Int32) (a0 a1 t0 t1 n0 n1 : Nat) (f g : Nat → Option Nat), st = .int n :: .int dp :: .ref a1 :: .int sp :: .ref a0 :: st' ∧ q_ar x t0 a0 = some (n0, f) ∧ q_ar x t1 a1 = some (n1, g) ∧ ¬ sp < 0 ∧ ¬ dp < 0 ∧ ¬ n < 0 ∧ sp.toNatClampNeg + n.toNatClampNeg ≤ n0 ∧ dp.toNatClampNeg + n.toNatClampNeg ≤ n1 ∧ (∀ i : Nat, i < n.toNatClampNeg → ∀ y : Nat, f (sp.toNatClampNeg + i) = some y → ∃ ci, q_al x ci y = true ∧ ci ∈ q_AL) ∧ x' = q_putR x t1 a1 n1 (va_cpy f g sp.toNatClampNeg dp.toNatClampNeg n.toNatClampNeg)
  | _ => False
/-- a call: which method, with which arguments, what stays on the stack -/
def q_cl (M : q_M) (ins : ClassFile.Instr) (len : Nat) (st : List Value) (x : q_S) (M' : q_M) (av rest : List Value) : Prop :=
  match ins with
  | .invokestatic idx => len = 3 ∧ (rest.map fun v => v.category).sum ≤ 8 ∧ av.length = M'.2.2.2.2 ∧ st = av.reverse ++ rest ∧ ∃ h : Option String, (M.1.cls, idx, M', h) ∈ q_CS
  | .invokevirtual idx => len = 3 ∧ (rest.map fun v => v.category).sum ≤ 8 ∧ ∃ (b ci : Nat) (as : List Value) (h : Option String) (q : vw_C), av = .ref b :: as ∧ as.length = M'.2.2.2.2 ∧ st = as.reverse ++ .ref b :: rest ∧ (M.1.cls, idx, M', h) ∈ q_CV ∧ q_al x ci b = true ∧ qC[ci]? = some q ∧ q.1 = M'.1.cls
  | .invokespecial idx => len = 3 ∧ (rest.map fun v => v.category).sum ≤ 8 ∧ ∃ (b : Nat) (as : List Value) (h : Option String), av = .ref b :: as ∧ as.length = M'.2.2.2.2 ∧ st = as.reverse ++ .ref b :: rest ∧ (M.1.cls, idx, M', h) ∈ q_CI
  | _ => False
/-- a return -/
def q_rt (M : q_M) (ins : ClassFile.Instr) (len : Nat) (st : List Value) (r : Option Value) : Prop :=
  match ins with
  | .ireturn => len = 1 ∧ ∃ v : Int32, st = [.int v] ∧ r = some (.int v) ∧ (M.2.2.2.1 = some .int ∨ (M.2.2.2.1 = some .boolean ∧ v &&& 1 = v))
  | .lreturn => len = 1 ∧ ∃ v : Int64, st = [.long v] ∧ r = some (.long v) ∧ M.2.2.2.1 = some .long
  | .areturn => len = 1 ∧ ∃ (o : Option Nat) (ty : FieldType), st = [va_rf o] ∧ r = some (va_rf o) ∧ M.2.2.2.1 = some ty ∧ ((∃ n, ty = .object n) ∨ ∃ t, ty = .array t)
  | .return_ => len = 1 ∧ st = [] ∧ r = none ∧ M.2.2.2.1 = none
  | _ => False
/-- the body of a method, in n steps -/
def q_run (C : q_M → List Value → q_S → q_S → Option Value → Prop) (F : q_S → Option Value → Prop) (M : q_M) : Nat → Nat → List (Nat × Value) → List Value → q_S → Prop
  | 0, _, _, _, _ => False
  | n + 1, pc, ls, st, x => ∃ (ins : ClassFile.Instr) (len : Nat), decode M.2.1 pc = .ok (ins, len) ∧
      ((∃ pc' ls' st', q_smp M pc ins len ls st x pc' ls' st' ∧ q_run C F M n pc' ls' st' x) ∨
       (∃ pc' ls' st' x', q_hp M pc ins len ls st x pc' ls' st' x' ∧ q_run C F M n pc' ls' st' x') ∨
       (∃ M' av rest x1 r, q_cl M ins len st x M' av rest ∧ C M' av x x1 r ∧ q_run C F M n (pc + 3) ls (r.toList ++ rest) x1) ∨
       (∃ r, q_rt M ins len st r ∧ F x r))
def q_X (C : q_M → List Value → q_S → q_S → Option Value → Prop) (F : q_S → Option Value → Prop) (M : q_M) (pc : Nat) (ls : List (Nat × Value)) (st : List Value) (x : q_S) : Prop := ∃ n, q_run C F M n pc ls st x
/-- a call of depth d at most -/
def q_call : Nat → q_M → List Value → q_S → q_S → Option Value → Prop
  | 0, _, _, _, _, _ => False
  | d + 1, M, av, x, x', r => M ∈ q_MT ∧ av.length ≤ M.2.2.1 ∧ (∀ v ∈ av, v.category = 1) ∧ q_X (q_call d) (fun y o => y = x' ∧ o = r) M 0 (q_la 0 av) [] x
