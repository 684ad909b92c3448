/-! Every entry of the tables stands on words of the Statement. -/
theorem q_inW (i : Nat) {w : Cond} (h : lw_tbl[i]? = some w) (hg : q_good w = true) : w ∈ q_WS := List.mem_filter.mpr ⟨List.mem_of_getElem? h, hg⟩
theorem q_inN (i : Nat) {w : Cond} (h : lw_tbl[i]? = some w) (hg : q_nest w = true) : w ∈ q_NW := List.mem_filter.mpr ⟨List.mem_of_getElem? h, hg⟩
theorem q_inL {ws : List Cond} (ps : List Nat) (hp : ws = ps.filterMap (fun i => lw_tbl[i]?)) (hg : ws.all q_good = true) : ∀ w ∈ ws, w ∈ q_WS := by
  intro w hw
  have h1 := List.all_eq_true.mp hg w hw
  rw [hp] at hw
  obtain ⟨i, -, hi⟩ := List.mem_filterMap.mp hw
  exact q_inW i hi h1
def q_okC (q : vw_C) : Prop := ∃ tyf : Nat → FieldType, (∀ w ∈ u_ws q.1 q.2.1 q.2.2, w ∈ q_WS) ∧ (∀ k, k < q.2.2 → parseFieldDescriptor (q.2.1 k).2.2.1 = some (tyf k)) ∧ (∀ a, a < q.2.2 → ∀ b, b < q.2.2 → a ≠ b → (q.2.1 a).2.1 ≠ (q.2.1 b).2.1)
def q_okF (e : q_F) : Prop := ∃ q : vw_C, qC[e.2.2.1]? = some q ∧ e.2.2.2.1 < q.2.2 ∧ parseFieldDescriptor (q.2.1 e.2.2.2.1).2.2.1 = some e.2.2.2.2.2.2.1 ∧ (q.2.1 e.2.2.2.1).2.2.2 = e.2.2.2.2.2.2.2 ∧
  (match e.2.2.2.2.2.1 with | none => Cond.fieldLink e.1 e.2.1 e.2.2.2.2.1 (q.2.1 e.2.2.2.1).2.1 (q.2.1 e.2.2.2.1).2.2.1 ∈ q_WS | some h => Cond.fieldLinkNest e.1 e.2.1 e.2.2.2.2.1 (q.2.1 e.2.2.2.1).2.1 (q.2.1 e.2.2.2.1).2.2.1 h ∈ q_NW) ∧
  (e.2.2.2.2.1 = (q.2.1 e.2.2.2.1).1 ∨ Cond.sameField e.2.2.2.2.1 (q.2.1 e.2.2.2.1).1 (q.2.1 e.2.2.2.1).2.1 (q.2.1 e.2.2.2.1).2.2.1 ∈ q_WS) ∧ (e.2.2.2.2.2.2.2 = true → e.2.2.2.2.2.1 = none → (q.2.1 e.2.2.2.1).1 = e.1)
def q_okM (M : q_M) : Prop := plainName M.1.cls = true ∧ Cond.code M.1 M.2.1 M.2.2.1 M.2.2.2.1 ∈ q_WS ∧ M.2.2.1 ≤ 45 ∧ M.1.cls ≠ "java/lang/invoke/MethodHandle" ∧ M.1.cls ≠ "java/lang/invoke/VarHandle" ∧ (parseMethodDescriptor M.1.desc).map (fun d => d.parameters.length) = some M.2.2.2.2 ∧ Cond.initialized M.1.cls ∈ q_WS ∧ True
def q_okL (e : q_L) : Prop := match e.2.2.2 with | none => Cond.methodLink e.1 e.2.1 e.2.2.1.1 ∈ q_WS | some h => Cond.methodLinkNest e.1 e.2.1 e.2.2.1.1 h ∈ q_NW
def q_okS (e : q_L) : Prop := q_okL e ∧ Cond.static e.2.2.1.1 ∈ q_WS
def q_okV (e : q_L) : Prop := q_okL e ∧ Cond.instanceMethod e.2.2.1.1 ∈ q_WS ∧ Cond.selects e.2.2.1.1.cls e.2.2.1.1 e.2.2.1.1 ∈ q_WS
def q_okI (e : q_L) : Prop := q_okL e ∧ Cond.instanceMethod e.2.2.1.1 ∈ q_WS ∧ e.2.2.1.1.name = "<init>" ∧ e.2.2.1.2.2.2.1 = none
def q_okN (e : q_N) : Prop := ∃ (q : vw_C) (tyf : Nat → FieldType), qC[e.2.2.1]? = some q ∧ e.2.2.2.length = q.2.2 ∧ (∀ k, k < q.2.2 → parseFieldDescriptor (q.2.1 k).2.2.1 = some (tyf k)) ∧ (∀ j, j < q.2.2 → defaultValue (tyf j) = vp_V e.2.2.2 j) ∧ Cond.classLink e.1 e.2.1 q.1 ∈ q_WS ∧ Cond.instantiable q.1 q.2.2 ∈ q_WS ∧ Cond.initialized q.1 ∈ q_WS
theorem q_Cok : ∀ (ci : Nat) (q : vw_C), qC[ci]? = some q → q_okC q := sorry
theorem q_FLok : ∀ e ∈ q_FL, q_okF e := sorry
theorem q_MTok : ∀ e ∈ q_MT, q_okM e := sorry
theorem q_CSok : ∀ e ∈ q_CS, q_okS e := sorry
theorem q_CVok : ∀ e ∈ q_CV, q_okV e := sorry
theorem q_CIok : ∀ e ∈ q_CI, q_okI e := sorry
theorem q_NLok : ∀ e ∈ q_NL, q_okN e := sorry
theorem q_SLok : ∀ e ∈ q_SL, Cond.fieldLink e.1 e.2 "java/util/ArrayList" "DEFAULTCAPACITY_EMPTY_ELEMENTDATA" "[Ljava/lang/Object;" ∈ q_WS := sorry
theorem q_KLok : ∀ e ∈ q_KL, Cond.classLink e.1 e.2.1 e.2.2 ∈ q_WS := sorry
theorem q_DLok : ∀ e ∈ q_DL, Cond.constantLong e.1 e.2.1 e.2.2 ∈ q_WS := sorry
theorem q_ILok : ∀ e ∈ q_IL, Cond.constant e.1 e.2.1 e.2.2 ∈ q_WS := sorry
theorem q_MLok : ∀ e ∈ q_ML, Cond.classLink e.1 e.2 "[Ljava/lang/Object;" ∈ q_WS := sorry
theorem q_OLok : ∀ e ∈ q_OL, Cond.methodLink e.1 e.2 Lib.objectInit ∈ q_WS := sorry
theorem q_GLok : ∀ e ∈ q_GL, Cond.methodLink e.1 e.2 ⟨"java/lang/Object", "getClass", "()Ljava/lang/Class;"⟩ ∈ q_WS := sorry
theorem q_YLok : ∀ e ∈ q_YL, Cond.methodLink e.1 e.2 arraycopyName ∈ q_WS := sorry
theorem q_QLok : ∀ e ∈ q_QL, Cond.classLink e.1 e.2 "java/lang/Object" ∈ q_WS := sorry
theorem q_XLok : ∀ e ∈ q_XL, Cond.methodLink e.1 e.2 Lib.Math.max.name ∈ q_WS := sorry
theorem q_VLok : ∀ e ∈ q_VL, Cond.methodLink e.1 e.2 Lib.Math.min.name ∈ q_WS := sorry
theorem q_mx1 : Cond.static Lib.Math.max.name ∈ q_WS := sorry
theorem q_mn1 : Cond.static Lib.Math.min.name ∈ q_WS := sorry
theorem q_mx2 : Cond.initialized "java/lang/Math" ∈ q_WS := sorry
theorem q_mx3 : Cond.code Lib.Math.max.name Lib.Math.max.code 2 (some .int) ∈ q_WS := sorry
theorem q_mn3 : Cond.code Lib.Math.min.name Lib.Math.min.code 2 (some .int) ∈ q_WS := sorry
theorem q_ob1 : Cond.instanceMethod Lib.objectInit ∈ q_WS := sorry
theorem q_ob2 : Cond.code Lib.objectInit ⟨#[0xb1]⟩ 1 none ∈ q_WS := sorry
theorem q_gc1 : Cond.selects "[Ljava/lang/Object;" ⟨"java/lang/Object", "getClass", "()Ljava/lang/Class;"⟩ ⟨"java/lang/Object", "getClass", "()Ljava/lang/Class;"⟩ ∈ q_WS := sorry
theorem q_gc2 : Cond.instanceMethod ⟨"java/lang/Object", "getClass", "()Ljava/lang/Class;"⟩ ∈ q_WS := sorry
theorem q_gc3 : Cond.native ⟨"java/lang/Object", "getClass", "()Ljava/lang/Class;"⟩ ∈ q_WS := sorry
theorem q_ac1 : Cond.native arraycopyName ∈ q_WS := sorry
theorem q_ac2 : Cond.static arraycopyName ∈ q_WS := sorry
theorem q_ac3 : Cond.initialized "java/lang/System" ∈ q_WS := sorry
theorem q_arI : Cond.arrayClass (newarray.typeOf .int) ∈ q_WS := sorry
theorem q_arZ : Cond.arrayClass (newarray.typeOf .boolean) ∈ q_WS := sorry
theorem q_ALok : ∀ (ci : Nat) (q : vw_C), ci ∈ q_AL → qC[ci]? = some q → Cond.castable q.1 "java/lang/Object" ∈ q_NW := sorry
