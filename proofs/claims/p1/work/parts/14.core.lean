/-! The whole body, calls and returns; the contract of every call. -/
theorem q_Mo_new {x x' : q_S} {k : Nat} (h1 : q_sz x' = q_sz x + 1) (h2 : q_sl x' = q_sl x + k) (h3 : q_ow x' = fun b => if b = q_sz x then true else q_ow x b) (h4 : q_en x' = q_en x) : q_Mo x x' := by
  refine ⟨by omega, by omega, fun b hb => ?_, h4⟩
  rw [h3] at hb
  by_cases hc : b = q_sz x
  · exact Or.inr (by omega)
  · have hb : (if b = q_sz x then true else q_ow x b) = true := hb
    rw [if_neg hc] at hb
    exact Or.inl hb
theorem q_hp_mo {M : q_M} {pc : Nat} {ins : ClassFile.Instr} {len : Nat} {ls : List (Nat × Value)} {st : List Value} {x : q_S} {pc' : Nat} {ls' : List (Nat × Value)} {st' : List Value} {x' : q_S} (h : q_hp M pc ins len ls st x pc' ls' st' x') : q_Mo x x' := by
  cases ins with
  | putfield idx => obtain ⟨-, -, -, en, a, v, -, -, -, -, -, -, -, -, rfl⟩ := h; exact q_Mo.rf x
  | iastore => obtain ⟨-, -, -, a, t, n, i, v, f, -, -, -, -, rfl⟩ := h; exact q_Mo.rf x
  | bastore => obtain ⟨-, -, -, a, t, n, i, v, f, -, -, -, -, rfl⟩ := h; exact q_Mo.rf x
  | aastore => obtain ⟨-, -, -, a, t, n, i, r, f, -, -, -, -, rfl⟩ := h; exact q_Mo.rf x
  | new idx => obtain ⟨-, -, -, en, -, -, -, -, rfl⟩ := h; exact q_Mo_new rfl rfl rfl rfl
  | newarray ty => obtain ⟨-, -, -, v, t, rest, -, -, -, -, -, rfl⟩ := h; exact q_Mo_new rfl rfl rfl rfl
  | anewarray idx => obtain ⟨-, -, -, -, v, t, rest, -, -, -, -, rfl⟩ := h; exact q_Mo_new rfl rfl rfl rfl
  | invokestatic idx => obtain ⟨-, -, -, -, -, n, dp, sp, a0, a1, t0, t1, n0, n1, f, g, -, -, -, -, -, -, -, -, -, rfl⟩ := h; exact q_Mo.rf x
  | _ => exact False.elim h
theorem q_hp_ls {M : q_M} {pc : Nat} {ins : ClassFile.Instr} {len : Nat} {ls : List (Nat × Value)} {st : List Value} {x : q_S} {pc' : Nat} {ls' : List (Nat × Value)} {st' : List Value} {x' : q_S} (h : q_hp M pc ins len ls st x pc' ls' st' x') : ls' = ls := by
  cases ins with
  | putfield idx => exact h.2.2.1
  | iastore => exact h.2.2.1
  | bastore => exact h.2.2.1
  | aastore => exact h.2.2.1
  | new idx => exact h.2.2.1
  | newarray ty => exact h.2.2.1
  | anewarray idx => exact h.2.2.1
  | invokestatic idx => exact h.2.2.1
  | _ => exact False.elim h
theorem q_run_mo {C : q_M → List Value → q_S → q_S → Option Value → Prop} {F : q_S → Option Value → Prop} {M : q_M} (hC : ∀ M' av x x1 r, C M' av x x1 r → q_Mo x x1) : ∀ (n pc : Nat) (ls : List (Nat × Value)) (st : List Value) (x : q_S), q_run C F M n pc ls st x → ∃ x' r, F x' r ∧ q_Mo x x' := by
  intro n
  induction n with
  | zero => intro pc ls st x h; exact False.elim h
  | succ n ih =>
    intro pc ls st x h
    obtain ⟨ins, len, -, h⟩ := h
    rcases h with ⟨pc', ls', st', -, h⟩ | ⟨pc', ls', st', x', hh, h⟩ | ⟨M', av, rest, x1, r, -, hc, h⟩ | ⟨r, -, hf⟩
    · exact ih _ _ _ _ h
    · obtain ⟨x2, r, hf, g⟩ := ih _ _ _ _ h
      exact ⟨x2, r, hf, (q_hp_mo hh).tr g⟩
    · obtain ⟨x2, r2, hf, g⟩ := ih _ _ _ _ h
      exact ⟨x2, r2, hf, (hC _ _ _ _ _ hc).tr g⟩
    · exact ⟨x, r, hf, q_Mo.rf x⟩
theorem q_good_in {ws : List Cond} (h : ∀ w ∈ ws, w ∈ q_WS) : GoodIn q_WS ws := by
  intro w hw
  refine ⟨h w hw, ?_⟩
  have h1 := (List.mem_filter.mp (h w hw)).2
  unfold q_good at h1
  rcases Bool.or_eq_true_iff.mp h1 with h2 | h2
  · exact Or.inl h2
  · right
    split at h2
    · exact ⟨_, rfl⟩
    · cases h2
section QCORE
variable {p : Program} {l : Launch} {e : Env} {R : Room} {s : State} {m : MethodId} {args : Array Value} {below : List Frame} {meth : Method} {c : Code} {Q : State → Prop}
variable {M : q_M} {D : va_G} {dA : Nat → ClassId} {x0 : q_S}
/-- what a call leaves: the machine's part and the pure part -/
theorem q_after {x x1 : q_S} {H : Heap} {locs : List Loc} {cells slots pc mc ms : Nat} {ls : Array Slot} {st rest : List Value} {r : Option Value} {a : Array Value} (I : q_In D dA x0 s.heap x H locs) (hmo : q_Mo x x1)
    (hr : va_Run p l e R s m args below meth c H locs cells slots mc ms (F0 m pc ls st) rest (q_Pst D dA x x1 r a) (q_A x))
    (k : ∀ (H1 : Heap) (locs1 : List Loc), q_In D dA x0 s.heap x1 H1 locs1 → W p l e R s m args below meth c H1 locs1 (cells + mc) (slots + ms) Q (F0 m (pc + 3) ls (r.toList ++ rest))) : W p l e R s m args below meth c H locs cells slots Q (F0 m pc ls st) := by
  intro T hT X
  obtain ⟨v, st₀, t, T', L, h0, X', hL, e1, e2, ⟨hv, hz, hR, hF⟩, stp⟩ := hr T hT X
  cases hv
  obtain ⟨-, hHz, hMo, hS⟩ := I
  have hF1 : ∀ q : Nat, q < H.size → ¬ q_A x q → T'.heap[q]? = H[q]? := fun q h1 h2 => by rw [e1, hF.2 q (by rw [h0]; exact h1) h2, h0]
  have hz1 : H.size ≤ T'.heap.size := by rw [e1, ← h0]; exact hF.1
  obtain ⟨t2, a1, b1⟩ := k T'.heap (locs ++ L) ⟨by rw [e1]; exact hR, by rw [e1]; exact hz, hMo.tr hmo, ⟨Nat.le_trans hS.1 hz1, fun q h1 h2 => by
      rw [hF1 q (Nat.lt_of_lt_of_le h1 hS.1) (fun z => h2 (hMo.A z))]
      exact hS.2.1 q h1 h2, fun q hq => by
      rcases List.mem_append.mp hq with h | h
      · exact hS.2.2 q h
      · exact hMo.A (hL q h)⟩⟩ T' rfl X'
  exact ⟨t2, stp t2 a1, b1⟩
set_option maxHeartbeats 4000000 in
theorem q_S3 {d : Nat} (X : q_Cx p s m args meth c M D dA x0) (hR1 : d + 1 ≤ R.frames) (hR2 : 64 * (d + 1) ≤ R.locals) {x x1 : q_S} {H : Heap} {locs : List Loc} {pc len : Nat} {ins : ClassFile.Instr} {ls : Array Slot} {lv : List (Nat × Value)} {st av rest : List Value} {M' : q_M} {r : Option Value} (hl : lv_has ls M.2.2.1 lv) (I : q_In D dA x0 s.heap x H locs) (hd : decode M.2.1 pc = .ok (ins, len)) (h : q_cl M ins len st x M' av rest) (hct : q_CT l D dA d M' av x x1 r) (hc1 : q_sz x1 - q_sz x0 ≤ R.cells) (hc2 : q_sl x1 - q_sl x0 ≤ R.slots)
    (k : ∀ (H1 : Heap) (locs1 : List Loc), q_In D dA x0 s.heap x1 H1 locs1 → W p l e R s m args below meth c H1 locs1 (q_sz x1 - q_sz x0) (q_sl x1 - q_sl x0) Q (F0 m (pc + 3) ls (r.toList ++ rest))) : W p l e R s m args below meth c H locs (q_sz x - q_sz x0) (q_sl x - q_sl x0) Q (F0 m pc ls st) := by
  obtain ⟨hM', hmo, hMet⟩ := hct
  obtain ⟨hx, hb, hml, hown, hts, hKv, hKh, hnm, hsz⟩ := X
  have I0 := I
  obtain ⟨⟨ws, hRw⟩, hHz, hMo, hS⟩ := I0
  have hm1 := hMo.1
  have hm2 := hMo.2.1
  have hn1 := hmo.1
  have hn2 := hmo.2.1
  have ec : (q_sz x - q_sz x0) + (q_sz x1 - q_sz x) = q_sz x1 - q_sz x0 := by omega
  have es : (q_sl x - q_sl x0) + (q_sl x1 - q_sl x) = q_sl x1 - q_sl x0 := by omega
  obtain ⟨hpl, hcode, hmaxL, hy1, hy2, hnp, hini, hwi⟩ := q_MTok M' hM'
  have hG : GoodIn q_WS (q_wM M') := q_good_in (fun w hw => by
    rcases List.mem_cons.mp hw with h1 | h1
    · rw [h1]; exact hcode
    · exact h1)
  have hpre : ∀ U : State, U.heap = H → s.WarmedH U.vm → q_Pre D dA av x av.toArray U := fun U hU hW => by
    refine ⟨rfl, (hKv.en hMo.2.2.2).warm hW, ?_, by rw [hU]; exact hHz, ws, by rw [hU]; exact hRw⟩
    rw [hU]
    exact q_Kh.to hMo.2.2.2 hW.alike hS.1 (fun a h1 h2 => hS.2.1 a h1 h2) (fun q z => hMo.A z) hKh
  have hf : (q_sz x - q_sz x0) + (q_sz x1 - q_sz x) ≤ R.cells ∧ (q_sl x - q_sl x0) + (q_sl x1 - q_sl x) ≤ R.slots := ⟨by omega, by omega⟩
  have hrm : (q_rm d (q_sz x1 - q_sz x) (q_sl x1 - q_sl x)).frames + 1 ≤ R.frames ∧ 8 + (M'.2.2.1 + 11) + (q_rm d (q_sz x1 - q_sz x) (q_sl x1 - q_sl x)).locals ≤ R.locals := ⟨hR1, by show 8 + (M'.2.2.1 + 11) + 64 * d ≤ R.locals; omega⟩
  have kk : ∀ (H1 : Heap) (locs1 : List Loc), q_In D dA x0 s.heap x1 H1 locs1 → W p l e R s m args below meth c H1 locs1 ((q_sz x - q_sz x0) + (q_sz x1 - q_sz x)) ((q_sl x - q_sl x0) + (q_sl x1 - q_sl x)) Q (F0 m (pc + 3) ls (r.toList ++ rest)) := fun H1 locs1 I1 => W.cs ec es (k H1 locs1 I1)
  have hp8 : (rest.map fun v => v.category).sum ≤ 8 → 2 * (F0 m pc ls st).monitorRoom + (rest.map fun v => v.category).sum ≤ 8 := fun h => by show 2 * 0 + _ ≤ 8; omega
  cases ins with
  | invokestatic idx =>
    obtain ⟨rfl, hsum, hlen, rfl, ho, he⟩ := h
    obtain ⟨hl1, hst⟩ := q_CSok _ he
    cases ho with
    | none => exact q_after I hmo (va_runS ⟨hx, hb, hml, hown, hts⟩ hMet ⟨callB_of M'.2.2.2.2 hts hG rfl rfl rfl (hts _ hini) (hts _ hl1) ⟨hy1, hy2, hnp⟩ hrm, hts _ hst⟩ ⟨q_Pre.blind, hpre⟩ rfl hlen hl.1 rfl (hp8 hsum) hd hf) kk
    | some ho => exact q_after I hmo (va_runSN ⟨hx, hb, hml, hown, hts⟩ hMet ⟨va_cnB M'.2.2.2.2 hts hG rfl rfl rfl (hKv.2.1 _ hl1) (hts _ hini) ⟨hy1, hy2, hnp⟩ hrm, hts _ hst, trivial⟩ ⟨q_Pre.blind, hpre⟩ rfl hlen hl.1 rfl (hp8 hsum) hd hf) kk
  | invokevirtual idx =>
    obtain ⟨rfl, hsum, b, ci, as, ho, q, rfl, hlen, rfl, he, hal, hq, hqc⟩ := h
    obtain ⟨hl1, hst, hse⟩ := q_CVok _ he
    obtain ⟨q0, fs, q', hq', hw, -, -⟩ := hRw.2.2.1 ci b hal
    cases hq.symm.trans hq'
    have hrec := va_recv hKv.1 hRw.1 hq hw
    rw [hqc] at hrec
    cases ho with
    | none => exact q_after I hmo (va_runV (C := M'.1.cls) ⟨hx, hb, hml, hown, hts⟩ hMet ⟨callB_of M'.2.2.2.2 hts hG rfl rfl rfl (hts _ hini) (hts _ hl1) ⟨hy1, hy2, hnp⟩ hrm, hts _ hst, hts _ hse⟩ ⟨q_Pre.blind, hrec, hpre⟩ rfl hlen hl.1 rfl (hp8 hsum) hd hf) kk
    | some ho => exact q_after I hmo (va_runVN (C := M'.1.cls) ⟨hx, hb, hml, hown, hts⟩ hMet ⟨va_cnB M'.2.2.2.2 hts hG rfl rfl rfl (hKv.2.1 _ hl1) (hts _ hini) ⟨hy1, hy2, hnp⟩ hrm, hts _ hst, hts _ hse⟩ ⟨q_Pre.blind, hrec, hpre⟩ rfl hlen hl.1 rfl (hp8 hsum) hd hf) kk
  | invokespecial idx =>
    obtain ⟨rfl, hsum, b, as, ho, rfl, hlen, rfl, he⟩ := h
    obtain ⟨hl1, hst, hnm2, hret⟩ := q_CIok _ he
    have hwi2 : q_wM M' = Cond.code M'.1 M'.2.1 M'.2.2.1 none :: q_WS := by unfold q_wM; rw [hret]
    cases ho with
    | none => exact q_after I hmo (va_runI ⟨hx, hb, hml, hown, hts⟩ hMet ⟨callB_of M'.2.2.2.2 hts hG hwi2 rfl rfl (hts _ hini) (hts _ hl1) ⟨hy1, hy2, hnp⟩ hrm, hnm2, hts _ hst⟩ ⟨q_Pre.blind, hpre⟩ rfl hlen hl.1 rfl (hp8 hsum) hd hf) kk
    | some ho => exact q_after I hmo (va_runIN ⟨hx, hb, hml, hown, hts⟩ hMet ⟨va_cnB M'.2.2.2.2 hts hG hwi2 rfl rfl (hKv.2.1 _ hl1) (hts _ hini) ⟨hy1, hy2, hnp⟩ hrm, hnm2, hts _ hst⟩ ⟨q_Pre.blind, hpre⟩ rfl hlen hl.1 rfl (hp8 hsum) hd hf) kk
  | _ => exact False.elim h
/-- the walk of a whole body; what is done at a return is a hypothesis -/
theorem q_walk {d : Nat} {F : q_S → Option Value → Prop} (X : q_Cx p s m args meth c M D dA x0) (hR1 : d + 1 ≤ R.frames) (hR2 : 64 * (d + 1) ≤ R.locals) (hC : ∀ M' av x x1 r, q_call d M' av x x1 r → q_CT l D dA d M' av x x1 r)
    (hcap : ∀ x r, F x r → q_sz x - q_sz x0 ≤ R.cells ∧ q_sl x - q_sl x0 ≤ R.slots)
    (hret : ∀ (x : q_S) (r : Option Value) (ins : ClassFile.Instr) (len pc : Nat) (ls : Array Slot) (st : List Value) (H : Heap) (locs : List Loc), F x r → q_In D dA x0 s.heap x H locs → decode M.2.1 pc = .ok (ins, len) → q_rt M ins len st r → W p l e R s m args below meth c H locs (q_sz x - q_sz x0) (q_sl x - q_sl x0) Q (F0 m pc ls st)) :
    ∀ (n pc : Nat) (lv : List (Nat × Value)) (st : List Value) (x : q_S) (ls : Array Slot) (H : Heap) (locs : List Loc), q_run (q_call d) F M n pc lv st x → lv_has ls M.2.2.1 lv → q_c1 lv → q_In D dA x0 s.heap x H locs → W p l e R s m args below meth c H locs (q_sz x - q_sz x0) (q_sl x - q_sl x0) Q (F0 m pc ls st) := by
  have hmo : ∀ M' av x x1 r, q_call d M' av x x1 r → q_Mo x x1 := fun M' av x x1 r h => (hC M' av x x1 r h).2.1
  have cap : ∀ {n pc lv st} {x : q_S}, q_run (q_call d) F M n pc lv st x → q_sz x - q_sz x0 ≤ R.cells ∧ q_sl x - q_sl x0 ≤ R.slots := fun {n pc lv st x} h => by
    obtain ⟨x', r, hf, g⟩ := q_run_mo hmo _ _ _ _ _ h
    obtain ⟨c1, c2⟩ := hcap x' r hf
    have g1 := g.1
    have g2 := g.2.1
    exact ⟨by omega, by omega⟩
  intro n
  induction n with
  | zero => intro pc lv st x ls H locs h; exact False.elim h
  | succ n ih =>
    intro pc lv st x ls H locs h hl hc1 I
    obtain ⟨ins, len, hd, h⟩ := h
    rcases h with ⟨pc', ls', st', hh, h⟩ | ⟨pc', ls', st', x', hh, h⟩ | ⟨M', av, rest, x1, r, hh, hc, h⟩ | ⟨r, hh, hf⟩
    · obtain ⟨c1, c2⟩ := cap h
      exact q_S1 X (by omega) (by omega) c1 c2 hl hc1 I hd hh (fun ls1 hl1 hc2 => ih _ _ _ _ _ _ _ h hl1 hc2 I)
    · obtain ⟨c1, c2⟩ := cap h
      have hls := q_hp_ls hh
      subst hls
      exact q_S2 X (by omega) (by omega) hl I hd hh c1 c2 (fun ls1 H1 locs1 hl1 I1 => ih _ _ _ _ _ _ _ h hl1 hc1 I1)
    · obtain ⟨c1, c2⟩ := cap h
      exact q_S3 X hR1 hR2 hl I hd hh (hC _ _ _ _ _ hc) c1 c2 (fun H1 locs1 I1 => ih _ _ _ _ _ _ _ h hl hc1 I1)
    · exact hret x r ins len pc ls st H locs hf I hd hh
end QCORE
theorem q_zb {v : Int32} (h : v &&& 1 = v) : narrow .boolean (.int v) = .int v := by
  show Value.int (v &&& 1) = _
  rw [h]
set_option maxHeartbeats 4000000 in
/-- every call that the pure machine makes, the machine makes -/
theorem q_sound (l : Launch) (D : va_G) (dA : Nat → ClassId) : ∀ (d : Nat) (M : q_M) (av : List Value) (x x' : q_S) (r : Option Value), q_call d M av x x' r → q_CT l D dA d M av x x' r := by
  intro d
  induction d with
  | zero => intro M av x x' r h; exact False.elim h
  | succ d ih =>
    intro M av x x' r h
    obtain ⟨hM, hlen, hcat, n, hrun⟩ := h
    obtain ⟨hpl, hcode, hmaxL, hy1, hy2, hnp, hini, hwi⟩ := q_MTok M hM
    have hMo : q_Mo x x' := by
      obtain ⟨y, o, ⟨e1, -⟩, g⟩ := q_run_mo (fun M' av x x1 r h => (ih M' av x x1 r h).2.1) _ _ _ _ _ hrun
      rw [← e1]; exact g
    refine ⟨hM, hMo, Met.ofW (cc := M.2.1) (maxL := M.2.2.1) (ret := M.2.2.2.1) hpl rfl ?_⟩
    intro p e s m args below meth c s₁ B hml hv
    obtain ⟨rfl, hKv, hKh, hsz, hR⟩ := hv
    have hx := B.exec
    have hb := B.bytes
    have hr := B.returns
    have hts0 := atoms_spec (ws := q_wM M) B.pre
    have hts : ∀ w ∈ q_WS, w.before av.toArray s = true := fun w hw => hts0 w (List.mem_cons_of_mem _ hw)
    have hown : s.vm.findClass M.1.cls = some m.cls := findClass_of_methodNamed B.named
    have hlocks := B.notSynchronized
    have hin : meth.name = M.1.name := (name_of_methodNamed B.named B.method).1
    have X : q_Cx p s m av.toArray meth c M D dA x := ⟨hx, hb, hml, hown, hts, hKv, hKh, fun z => hin.trans z, hsz⟩
    have I : q_In D dA x s.heap x s.heap [] := ⟨hR, hsz, q_Mo.rf x, va_S.rf⟩
    have hl := lv_entry av (n := M.2.2.1) (by rw [q_sl_len av hcat]; exact hlen)
    rw [q_la_eq av 0 hcat] at hl
    rw [lg_entry_eq]
    generalize (lg_sl av ++ List.replicate (M.2.2.1 - (lg_sl av).length) Slot.unset).toArray = ls at hl ⊢
    have hw := q_walk (p := p) (l := l) (e := e) (R := q_rm (d + 1) (q_sz x' - q_sz x) (q_sl x' - q_sl x)) (below := below) (Q := MQ below (q_Pst D dA x x' r) av.toArray s (q_sz x' - q_sz x) (q_sl x' - q_sl x) (q_A x)) (F := fun y o => y = x' ∧ o = r) X (Nat.le_refl _) (Nat.le_refl _) ih
      (fun y o h => by rw [h.1]; exact ⟨Nat.le_refl _, Nat.le_refl _⟩)
      (fun y o ins len pc ls st H locs hF I hd hh => by
        obtain ⟨rfl, rfl⟩ := hF
        obtain ⟨hRw, hHz, hMo, hS⟩ := I
        cases ins with
        | ireturn =>
          obtain ⟨rfl, v, rfl, rfl, hty⟩ := hh
          rcases hty with hty | ⟨hty, hv⟩
          · exact W.iret hx hb (hr.trans hty) (fun t ht hW => ⟨rfl, by rw [ht]; exact hHz, by rw [ht]; exact hRw, hS.F ht⟩) hS.2.2 hd
          · exact W.zret hx hb (hr.trans hty) (q_zb hv) (fun t ht hW => ⟨rfl, by rw [ht]; exact hHz, by rw [ht]; exact hRw, hS.F ht⟩) hS.2.2 hd
        | lreturn =>
          obtain ⟨rfl, v, rfl, rfl, hty⟩ := hh
          exact W.lret hx hb (hr.trans hty) (fun t ht hW => ⟨rfl, by rw [ht]; exact hHz, by rw [ht]; exact hRw, hS.F ht⟩) hS.2.2 hd
        | areturn =>
          obtain ⟨rfl, o, ty, rfl, rfl, hty, hrt⟩ := hh
          exact W.aret hx hb (hr.trans hty) hrt (q_ref_or o) (fun t ht hW => ⟨rfl, by rw [ht]; exact hHz, by rw [ht]; exact hRw, hS.F ht⟩) hS.2.2 hd
        | return_ =>
          obtain ⟨rfl, rfl, rfl, hty⟩ := hh
          exact W.vret hx hb (hr.trans hty) (fun t ht hW => ⟨rfl, by rw [ht]; exact hHz, by rw [ht]; exact hRw, hS.F ht⟩) hS.2.2 hd
        | _ => exact False.elim hh)
      n 0 (q_la 0 av) [] x ls s.heap [] hrun hl (q_la_c1 av 0 hcat) I
    rw [Nat.sub_self, Nat.sub_self] at hw
    exact hw
