/-! How the machine's heap holds a pure state; what a call's contract says. -/
def q_good (w : Cond) : Bool := (w.onTables && w.keeps) || (match w with | .arrayClass _ => true | _ => false)
def q_WS : List Cond := lw_tbl.filter q_good
def q_nest (w : Cond) : Bool := match w with | .fieldLinkNest _ _ _ _ _ _ => true | .methodLinkNest _ _ _ _ => true | .castable _ _ => true | _ => false
def q_NW : List Cond := lw_tbl.filter q_nest
def q_wM (M : q_M) : List Cond := Cond.code M.1 M.2.1 M.2.2.1 M.2.2.2.1 :: q_WS
def q_tys (dA : Nat → ClassId) : List (ClassId × FieldType) := [(dA 0, .int), (dA 1, .boolean), (dA 2, .object "java/lang/Object")]
def q_A (x : q_S) : Nat → Prop := fun a => q_ow x a = true ∨ q_sz x ≤ a
def q_Rw (D : va_G) (dA : Nat → ClassId) (x : q_S) (ws : va_W) (H : Heap) : Prop :=
  va_P D qC ws H ∧ va_D (fun a => q_ow x a = true) ws ∧
  (∀ ci a : Nat, q_al x ci a = true → ∃ (q0 : Nat) (fs : List Value) (q : vw_C), qC[ci]? = some q ∧ ws[q0]? = some (a, .inr (ci, fs)) ∧ fs.length = q.2.2 ∧ ∀ k : Nat, k < q.2.2 → fs[k]? = some (q_fd x ci k a)) ∧
  (∀ (t a n : Nat) (f : Nat → Int32), q_ai x t a = some (n, f) → ∃ q0 : Nat, ws[q0]? = some (a, .inl (dA (q_kd t), n, .inl f))) ∧
  (∀ (t a n : Nat) (f : Nat → Option Nat), q_ar x t a = some (n, f) → ∃ q0 : Nat, ws[q0]? = some (a, .inl (dA 2, n, .inr (.inr (.inr (.inr f)))))) ∧
  (∀ (t u a : Nat) (y z : Nat × (Nat → Int32)), q_ai x t a = some y → q_ai x u a = some z → t = u) ∧
  (∀ (t u a : Nat) (y z : Nat × (Nat → Option Nat)), q_ar x t a = some y → q_ar x u a = some z → t = u)
def q_AL0 : String := "java/util/ArrayList"
def q_Kv (D : va_G) (dA : Nat → ClassId) (x : q_S) (U : State) : Prop :=
  va_K D qC (q_tys dA) U ∧ (∀ w ∈ q_NW, va_Nw w U) ∧ va_AO "java/lang/Object" U ∧ va_Mi "[Ljava/lang/Object;" (q_mo x) U ∧ va_Dc U
def q_Kh (x : q_S) (A : Nat → Prop) (U : State) (H : Heap) : Prop :=
  va_Z "java/util/ArrayList" "DEFAULTCAPACITY_EMPTY_ELEMENTDATA" "[Ljava/lang/Object;" (.ref (q_z0 x)) A U H ∧ va_T (.object "java/lang/Object") (q_z0 x) 0 (fun _ => .null) A U H ∧ va_X (q_sb x) (q_sL x) (q_sx x) U H ∧ q_sb x < H.size ∧ ¬ A (q_sb x)
def q_Mo (x x' : q_S) : Prop := q_sz x ≤ q_sz x' ∧ q_sl x ≤ q_sl x' ∧ (∀ a, q_ow x' a = true → q_A x a) ∧ q_en x' = q_en x
def q_Pre (D : va_G) (dA : Nat → ClassId) (av : List Value) (x : q_S) : Array Value → State → Prop := va_Pc av (fun U => q_Kv D dA x U ∧ q_Kh x (q_A x) U U.heap ∧ U.heap.size = q_sz x ∧ ∃ ws, q_Rw D dA x ws U.heap)
def q_Pst (D : va_G) (dA : Nat → ClassId) (x x' : q_S) (r : Option Value) : Array Value → State → Outcome → State → Prop := fun _ st oc t => oc = .returned r ∧ t.heap.size = q_sz x' ∧ (∃ ws, q_Rw D dA x' ws t.heap) ∧ va_F (q_A x) st t
def q_rm (d mc ms : Nat) : Room := { frames := d, cells := mc, slots := ms, locals := 64 * d }
def q_CT (l : Launch) (D : va_G) (dA : Nat → ClassId) (d : Nat) (M : q_M) (av : List Value) (x x' : q_S) (r : Option Value) : Prop :=
  M ∈ q_MT ∧ q_Mo x x' ∧ Met l M.1 (q_wM M) (q_rm d (q_sz x' - q_sz x) (q_sl x' - q_sl x)) (q_Pre D dA av x) (q_Pst D dA x x' r) (q_sz x' - q_sz x) (q_sl x' - q_sl x) (q_A x)
theorem q_Mo.rf (x : q_S) : q_Mo x x := ⟨Nat.le_refl _, Nat.le_refl _, fun _ h => Or.inl h, rfl⟩
theorem q_Mo.tr {x y z : q_S} (h : q_Mo x y) (g : q_Mo y z) : q_Mo x z := by
  refine ⟨Nat.le_trans h.1 g.1, Nat.le_trans h.2.1 g.2.1, fun a ha => ?_, g.2.2.2.trans h.2.2.2⟩
  rcases g.2.2.1 a ha with h1 | h1
  · exact h.2.2.1 a h1
  · exact Or.inr (Nat.le_trans h.1 h1)
theorem q_Mo.A {x y : q_S} (h : q_Mo x y) {a : Nat} (ha : q_A y a) : q_A x a := by
  rcases ha with h1 | h1
  · exact h.2.2.1 a h1
  · exact Or.inr (Nat.le_trans h.1 h1)
theorem q_Kv.en {D : va_G} {dA : Nat → ClassId} {x y : q_S} {U : State} (e : q_en y = q_en x) (h : q_Kv D dA x U) : q_Kv D dA y U := by
  unfold q_Kv at h ⊢
  rw [show q_mo y = q_mo x by unfold q_mo; rw [e]]
  exact h
theorem q_NW_mv {w : Cond} (hw : w ∈ q_NW) {s U : State} (hW : s.WarmedH U.vm) (h : va_Nw w s) : va_Nw w U := by
  have h1 := (List.mem_filter.mp hw).2
  unfold q_nest at h1
  split at h1
  · exact va_Nw.warmF hW h
  · exact va_Nw.warmM hW h
  · exact va_Nw.warmC hW h
  · cases h1
theorem q_Kv.warm {D : va_G} {dA : Nat → ClassId} {x : q_S} {s U : State} (hW : s.WarmedH U.vm) (h : q_Kv D dA x s) : q_Kv D dA x U :=
  ⟨va_K.moved hW.alike h.1, fun w hw => q_NW_mv hw hW (h.2.1 w hw), va_AO.moved hW.alike h.2.2.1, va_Mi.moved hW.alike h.2.2.2.1, va_Dc.moved hW.alike h.2.2.2.2⟩
theorem q_NW_same {w : Cond} (hw : w ∈ q_NW) {u U : State} (hv : u.vm = U.vm) (h : va_Nw w u) : va_Nw w U := by
  refine va_Nw.same ?_ hv h
  have h1 := (List.mem_filter.mp hw).2
  unfold q_nest at h1
  split at h1 <;> first | rfl | cases h1
theorem q_Kh.to {x y : q_S} {A B : Nat → Prop} {u U : State} {H H1 : Heap} (e : q_en y = q_en x) (hvm : u.vm.Alike U.vm) (hz : H.size ≤ H1.size) (hq : ∀ a : Nat, a < H.size → ¬ A a → H1[a]? = H[a]?) (hBA : ∀ q, B q → A q) (h : q_Kh x A u H) : q_Kh y B U H1 := by
  unfold q_Kh at h ⊢
  rw [show q_z0 y = q_z0 x by unfold q_z0; rw [e], show q_sb y = q_sb x by unfold q_sb; rw [e], show q_sL y = q_sL x by unfold q_sL; rw [e], show q_sx y = q_sx x by unfold q_sx; rw [e]]
  obtain ⟨h1, h2, h3, h4, h5⟩ := h
  exact ⟨va_Z.moved hvm ((h1.kept hq).narrow hBA), va_T.moved hvm ((h2.kept hq).narrow hBA), va_X.moved hvm (h3.kept (hq _ h4 h5)), Nat.lt_of_lt_of_le h4 hz, fun z => h5 (hBA _ z)⟩
theorem q_Pre.blind {D : va_G} {dA : Nat → ClassId} {av : List Value} {x : q_S} : FrameBlind (q_Pre D dA av x) := by
  intro a U g mk h
  obtain ⟨h1, h2, h3, h4, h5⟩ := h
  refine ⟨h1, ⟨va_K.moved (u := U) (U := U.calling g mk a) (Vm.Alike.refl U.vm) h2.1, fun w hw => q_NW_same (u := U) (U := U.calling g mk a) hw rfl (h2.2.1 w hw), va_AO.moved (u := U) (U := U.calling g mk a) (Vm.Alike.refl U.vm) h2.2.2.1, va_Mi.moved (u := U) (U := U.calling g mk a) (Vm.Alike.refl U.vm) h2.2.2.2.1, va_Dc.moved (u := U) (U := U.calling g mk a) (Vm.Alike.refl U.vm) h2.2.2.2.2⟩, ?_, h4, h5⟩
  exact q_Kh.to (u := U) (U := U.calling g mk a) rfl (Vm.Alike.refl U.vm) (Nat.le_refl _) (fun _ _ _ => rfl) (fun _ z => z) h3
