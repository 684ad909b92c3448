/-! THE CLAIM OUT OF ONE WALK OF THE LAW'S BODY. Your part is whole_start (and what it stands on); all else here is the same for every law, but numbers. -/
def R_law : String := "BeanContextsLaw"
def lw_P (b : Addr) (xs : List Int32) (args : Array Value) (s : State) : Prop := args = #[.ref b] ∧ s.IntsAt b xs ∧ xs.length ≤ 2561 ∧ (Jvm.Cond.and given_1 narrow_1).before args s = true
def lw_Q (_ : Array Value) (s : State) (o : Outcome) (t : State) : Prop := o = .returned (some (.int 1)) ∧ Framed s o t [] 600000 7302250
def lw_Z (below : List Frame) (a : Array Value) (s : State) : State → Prop := fun t => ∃ o, t.status = .running ∧ Ended t below o ∧ lw_Q a s o t
/-- the law's own end, with 1 on the stack, nothing written that was there before, its room as the claim has it -/
theorem lw_ret {p : Program} {l : Launch} {e : Env} {s : State} {m : MethodId} {below : List Frame} {meth : Method} {c : Code} {b : Nat} (hx : p.tables.exec = Jvm.exec) (hb : c.code = code) (hr : meth.sig.returnType = ret) (hlocks : meth.locks = false) {pc : Nat} {H : Heap} {ls : Array Slot} (hdg : decode code pc = .ok (.ireturn, 1)) : W p l e room_1 s m #[Value.ref b] below meth c H [] 600000 7302250 (lw_Z below #[Value.ref b] s) (F0 m pc ls [.int 1]) := by
  intro T hT X
  obtain ⟨fs, hret, hrun, hended, hW, hframe⟩ := X.leave (v := some (.int 1)) (hlocks := hlocks) (fun h => by rw [hr] at h; cases h)
  have hmeth' : T.vm.method? m = some meth := X.method'
  refine ⟨T.setFrames fs, ?_, .returned (some (.int 1)), hrun, hended, rfl, ⟨_, rfl⟩, hW, hframe⟩
  jvm_step X.here [X.here.top, hx, hb, hdg, hmeth', hr, ret, narrow_b1]
  (try refine ⟨rfl, ?_⟩); (try refine ⟨rfl, ?_⟩)
  first | (intro acts; rw [hret _ acts rfl rfl rfl]) | rw [hret _ _ rfl rfl rfl]
  exact Steps.refl _
/-- what holds at the law's entry: the machine, the code, the tables' words (any of lw_tbl by 'hts w (by decide +kernel)'), the script of L ints xs at the cell b, what the Statement gives of the start (any of its parts by flat_of_before) -/
def lw_At (p : Program) (s : State) (m : MethodId) (meth : Method) (c : Code) (b L : Nat) (xs : Nat → Int32) : Prop :=
  p.tables.exec = Jvm.exec ∧ c.code = code ∧ meth.sig.returnType = ret ∧ c.maxLocals = 4 ∧ s.vm.findClass R_law = some m.cls ∧ (∀ w ∈ lw_tbl, w.before #[Value.ref b] s = true) ∧ va_X b L xs s s.heap ∧ b < s.heap.size ∧ meth.locks = false ∧ (Jvm.Cond.and given_1 narrow_1).before #[Value.ref b] s = true
/-! From the law's pure function to the walk of its body. -/
def q_x0 (sz z0 mo b L : Nat) (xs : Nat → Int32) : q_S := (sz, 0, (fun _ => false), (fun _ _ => false), (fun _ _ _ => .null), (fun _ _ => none), (fun _ _ => none), (z0, mo, b, L, xs))
/-- what is left to show, of numbers and functions alone -/
def q_goal (N : Nat) : Prop := ∀ (sz z0 mo b L : Nat) (xs : Nat → Int32), L ≤ N → z0 < sz → b < sz → ∃ p : q_S × Int32, jf_La_law (q_x0 sz z0 mo b L xs) (some b) = some p ∧ p.2 = 1 ∧ q_sz p.1 ≤ sz + 600000 ∧ q_sl p.1 ≤ 7302250
theorem q_arr {s : State} {A : Array Value} {ty : FieldType} (h : (Cond.arrayClass ty).before A s = true) : ∃ c : ClassId, ArrOfT s c ty ∧ s.vm.findClass ("[" ++ ty.toString) = some c := by
  obtain ⟨c, k, comp, h1, h2, h3⟩ := Cond.arrayClass_spec h
  exact ⟨c, fun n z => ⟨fun _ h => (by cases h), k, h2, comp, h3⟩, h1⟩
theorem q_arr2 {s : State} {A : Array Value} (h : (Cond.arrayOver (.object "java/lang/Object")).before A s = true) : ∃ c : ClassId, ArrOfT s c (.object "java/lang/Object") ∧ va_RA s c (.object "java/lang/Object") := by
  obtain ⟨comp, c, k, h1, -, h3, h4, h5⟩ := Cond.arrayOver_spec h
  exact ⟨c, fun n z => ⟨fun _ h => (by cases h), k, h3, comp, h4⟩, k, comp, h3, h4, h1, h5⟩
set_option maxHeartbeats 4000000 in
theorem q_start {N : Nat} (hg : q_goal N) {p : Program} {e : Env} {s : State} {m : MethodId} {below : List Frame} {meth : Method} {c : Code} (l : Launch) {b L : Nat} {xs : Nat → Int32} (hL : L ≤ N) (C0 : lw_At p s m meth c b L xs) : W p l e room_1 s m #[Value.ref b] below meth c s.heap [] 0 0 (lw_Z below #[Value.ref b] s) (entryFrame m ([Value.ref b] : List Value).toArray 4) := by
  obtain ⟨hx, hb, hr, hml, hown, hts0, hX, hbl, hlocks, hgv⟩ := C0
  have hts : ∀ w ∈ q_WS, w.before #[Value.ref b] s = true := fun w hw => hts0 w (List.mem_filter.mp hw).1
  have hfl := flat_of_before _ hgv
  -- the classes
  have hcl : ∀ ci : Nat, ∃ (cC : ClassId) (iS : Nat → Nat), ∀ q : vw_C, qC[ci]? = some q → u_Kn s q.1 q.2.1 q.2.2 cC iS := by
    intro ci
    cases hq : qC[ci]? with
    | none => exact ⟨0, fun _ => 0, fun q h => by cases h⟩
    | some q =>
      obtain ⟨tyf, hin, -, -⟩ := q_Cok ci q hq
      obtain ⟨cC, iS, h⟩ := u_known hts hin (hts _ (q_Iok ci q hq))
      exact ⟨cC, iS, fun q' h' => by cases h'; exact h⟩
  let dC : Nat → ClassId := fun ci => Classical.choose (hcl ci)
  let dI : Nat → Nat → Nat := fun ci => Classical.choose (Classical.choose_spec (hcl ci))
  have hcls : ∀ (ci : Nat) (q : vw_C), qC[ci]? = some q → u_Kn s q.1 q.2.1 q.2.2 (dC ci) (dI ci) := fun ci q h => Classical.choose_spec (Classical.choose_spec (hcl ci)) q h
  -- the arrays
  obtain ⟨cI, hI1, hI2⟩ := q_arr (hts _ q_arI)
  obtain ⟨cZ, hZ1, hZ2⟩ := q_arr (hts _ q_arZ)
  obtain ⟨cO, hO1, hO2⟩ := q_arr2 (hts0 _ q_ao1)
  let dA : Nat → ClassId := fun k => if k = 0 then cI else if k = 1 then cZ else cO
  have hK : va_K (dC, dI) qC (q_tys dA) s := by
    refine ⟨hcls, fun k q hk => ?_⟩
    match k, hk with
    | 0, hk => cases hk; exact ⟨hI1, hI2⟩
    | 1, hk => cases hk; exact ⟨hZ1, hZ2⟩
    | 2, hk => cases hk; exact ⟨hO1, hO2⟩
    | k + 3, hk => cases hk
  -- the mirror and the empty table
  obtain ⟨mo, hmo⟩ := va_Mi.of (hfl (Cond.isRef (.mirror "[Ljava/lang/Object;")) (by decide +kernel))
  have hlen := va_eqt (hfl (Cond.eq (.length (.static "java/util/ArrayList" "DEFAULTCAPACITY_EMPTY_ELEMENTDATA" "[Ljava/lang/Object;")) (.int 0)) (by decide +kernel))
  have hnA : ∀ (A : Nat → Prop), (∀ q, A q → s.heap.size ≤ q) → ∀ a : Nat, a < s.heap.size → ¬ A a := fun A h a ha z => absurd (h a z) (by omega)
  have hAz : ∀ (z0 : Nat), ∀ q, q_A (q_x0 s.heap.size z0 mo b L xs) q → s.heap.size ≤ q := fun z0 q h => by
    rcases h with h | h
    · cases h
    · exact h
  obtain ⟨z0, hz1, hz2⟩ := va_Tof (N := 0) (f := fun _ => Value.null) (A := fun q => s.heap.size ≤ q) (by decide) (hfl (Cond.arrayOf (.static "java/util/ArrayList" "DEFAULTCAPACITY_EMPTY_ELEMENTDATA" "[Ljava/lang/Object;") (.object "java/lang/Object")) (by decide +kernel)) hlen (fun j hj => absurd hj (Nat.not_lt_zero j)) (fun a ha => by omega)
  have hZ := va_Zof (A := fun q => s.heap.size ≤ q) (hts0 _ q_ls1) (hts0 _ q_in1) hz1 (fun a ha => by omega)
  have hz3 : z0 < s.heap.size := Nat.lt_of_not_le (by obtain ⟨_, _, _, _, _, _, _, h⟩ := hz2; exact h)
  obtain ⟨⟨x', r⟩, hrun, hr1, hc1, hc2⟩ := hg s.heap.size z0 mo b L xs hL hz3 hbl
  dsimp only at hr1 hc1 hc2
  subst hr1
  generalize hx0 : q_x0 s.heap.size z0 mo b L xs = x0 at hrun hAz
  have hAx : ∀ q, q_A x0 q → s.heap.size ≤ q := by rw [← hx0]; exact hAz z0
  have hszx : s.heap.size = q_sz x0 := by rw [← hx0]; rfl
  have hslx : q_sl x0 = 0 := by rw [← hx0]; rfl
  have hNW : ∀ w ∈ q_NW, va_Nw w s := by
    intro w hw
    have hw1 := (List.mem_filter.mp hw)
    refine va_Nw.of ?_ (hts0 w hw1.1)
    have h1 := hw1.2
    unfold q_nest at h1
    split at h1 <;> first | rfl | cases h1
  have hKv : q_Kv (dC, dI) dA x0 s := by
    refine ⟨hK, hNW, va_AO.of (hts0 _ q_ao1), ?_, va_Dc.of (hts0 _ q_dc1)⟩
    rw [← hx0]
    exact hmo
  have hKh : q_Kh x0 (q_A x0) s s.heap := by
    rw [← hx0]
    rw [← hx0] at hAx
    exact ⟨hZ.narrow hAx, hz2.narrow hAx, hX, hbl, fun z => absurd (hAx _ z) (by show ¬ s.heap.size ≤ b; omega)⟩
  have X : q_Cx p s m #[Value.ref b] meth c jq_La_law (dC, dI) dA x0 := ⟨hx, hb, hml, hown, hts, hKv, hKh, (fun h => nomatch h), hszx⟩
  have I : q_In (dC, dI) dA x0 s.heap x0 s.heap [] := by
    refine ⟨⟨[], ?_⟩, hszx, q_Mo.rf x0, va_S.rf⟩
    rw [← hx0]
    refine ⟨?_, ⟨?_, ?_⟩, ?_, ?_, ?_, ?_, ?_⟩
    · intro k q h; cases h
    · intro i j p q h; cases h
    · intro k q h; cases h
    · intro ci a h; cases h
    · intro t a n f h; cases h
    · intro t a n f h; cases h
    · intro t u a y z h; cases h
    · intro t u a y z h; cases h
  have hl := lv_entry [Value.ref b] (n := 4) (Nat.le_of_ble_eq_true rfl)
  rw [lg_entry_eq]
  generalize (lg_sl [Value.ref b] ++ List.replicate (4 - (lg_sl [Value.ref b]).length) Slot.unset).toArray = ls at hl ⊢
  obtain ⟨n, hrun2⟩ := jm_La_law hrun
  have hw := q_walk (p := p) (l := l) (e := e) (R := room_1) (below := below) (Q := lw_Z below #[Value.ref b] s) X (show 137 + 1 ≤ 2048 by decide) (show 64 * (137 + 1) ≤ 84000 by decide) (q_sound l (dC, dI) dA 137)
    (fun y o h => by
      rw [h.1]
      show q_sz x' - q_sz x0 ≤ 600000 ∧ q_sl x' - q_sl x0 ≤ 7302250
      exact ⟨by omega, by omega⟩)
    (fun y o ins len pc ls st H locs hF I hd hh => by
      obtain ⟨hy, ho⟩ := hF
      subst ho
      have hs1 : q_sz y - q_sz x0 ≤ 600000 := by rw [hy]; show q_sz x' - q_sz x0 ≤ 600000; omega
      have hs2 : q_sl y - q_sl x0 ≤ 7302250 := by rw [hy]; show q_sl x' - q_sl x0 ≤ 7302250; omega
      obtain ⟨hRw, hHz, hMo, hS⟩ := I
      refine va_forget (fun q hq => hAx _ (hS.2.2 q hq)) ?_
      refine W.widen (k := 600000) (n := 7302250) hs1 hs2 ?_
      cases ins with
      | ireturn =>
        obtain ⟨rfl, v, rfl, hv, -⟩ := hh
        cases hv
        exact lw_ret hx hb hr hlocks hd
      | lreturn => obtain ⟨-, v, -, hv, -⟩ := hh; cases hv
      | areturn => obtain ⟨-, o, ty, -, hv, -⟩ := hh; cases o <;> cases hv
      | return_ => obtain ⟨-, -, hv, -⟩ := hh; cases hv
      | _ => exact False.elim hh)
    n 0 [(0, .ref b)] [] x0 ls s.heap [] hrun2 hl (fun q hq => by
      rcases List.mem_cons.mp hq with h | h
      · rw [h]; rfl
      · cases h) I
  rw [Nat.sub_self, Nat.sub_self] at hw
  exact hw
