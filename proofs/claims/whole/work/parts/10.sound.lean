/-! Each instruction that leaves the pure state as it is: the machine follows. -/
def q_Cx (p : Program) (s : State) (m : MethodId) (args : Array Value) (meth : Method) (c : Code) (M : q_M) (D : va_G) (dA : Nat → ClassId) (x0 : q_S) : Prop :=
  p.tables.exec = Jvm.exec ∧ c.code = M.2.1 ∧ c.maxLocals = M.2.2.1 ∧ s.vm.findClass M.1.cls = some m.cls ∧ (∀ w ∈ q_WS, w.before args s = true) ∧ q_Kv D dA x0 s ∧ q_Kh x0 (q_A x0) s s.heap ∧ (M.1.name = "<init>" → meth.name = "<init>") ∧ s.heap.size = q_sz x0
def q_In (D : va_G) (dA : Nat → ClassId) (x0 : q_S) (H0 : Heap) (x : q_S) (H : Heap) (locs : List Loc) : Prop :=
  (∃ ws, q_Rw D dA x ws H) ∧ H.size = q_sz x ∧ q_Mo x0 x ∧ va_S (q_A x0) H0 H locs
theorem q_ref_or (r : Option Nat) : va_rf r = .null ∨ ∃ a, va_rf r = .ref a := by
  cases r with
  | none => exact Or.inl rfl
  | some a => exact Or.inr ⟨a, rfl⟩
theorem q_kd_or (t : Nat) : q_kd t = 0 ∨ q_kd t = 1 := by
  unfold q_kd
  split
  · exact Or.inr rfl
  · exact Or.inl rfl
theorem q_cat (r : Option Nat) : (va_rf r).category = 1 := by
  cases r <;> rfl
theorem q_st1_eq {lv : List (Nat × Value)} (h : q_c1 lv) (i : Nat) (v : Value) : (i, v) :: lv.filter (fun q => !(q.1 == i) && !(q.1 + 1 == i && q.2.category == 2)) = q_st1 lv i v := by
  unfold q_st1
  congr 1
  refine List.filter_congr (fun q hq => ?_)
  rw [h q hq]
  simp
theorem q_c1_st {lv : List (Nat × Value)} (h : q_c1 lv) {i : Nat} {v : Value} (hv : v.category = 1) : q_c1 (q_st1 lv i v) := by
  intro q hq
  rcases List.mem_cons.mp hq with h1 | h1
  · rw [h1]; exact hv
  · exact h q (List.mem_filter.mp h1).1
theorem q_la_c1 : ∀ (vs : List Value) (i : Nat), (∀ v ∈ vs, v.category = 1) → q_c1 (q_la i vs)
  | [], _, _ => fun q hq => by cases hq
  | v :: vs, i, h => fun q hq => by
    rcases List.mem_cons.mp hq with h1 | h1
    · rw [h1]; exact h v List.mem_cons_self
    · exact q_la_c1 vs (i + 1) (fun w hw => h w (List.mem_cons_of_mem _ hw)) q h1
theorem q_la_eq : ∀ (vs : List Value) (i : Nat), (∀ v ∈ vs, v.category = 1) → lv_args i vs = q_la i vs
  | [], _, _ => rfl
  | v :: vs, i, h => by
    show (i, v) :: lv_args (if v.category = 2 then i + 2 else i + 1) vs = (i, v) :: q_la (i + 1) vs
    rw [h v List.mem_cons_self, if_neg (by decide), q_la_eq vs (i + 1) (fun w hw => h w (List.mem_cons_of_mem _ hw))]
theorem q_sl_len : ∀ (vs : List Value), (∀ v ∈ vs, v.category = 1) → (lg_sl vs).length = vs.length
  | [], _ => rfl
  | v :: vs, h => by
    show ((if v.category = 2 then [Slot.val v, .second] else [.val v]) ++ lg_sl vs).length = vs.length + 1
    rw [h v List.mem_cons_self, if_neg (by decide), List.length_append, q_sl_len vs (fun w hw => h w (List.mem_cons_of_mem _ hw))]
    show 1 + vs.length = vs.length + 1
    omega
section QS1
variable {p : Program} {l : Launch} {e : Env} {R : Room} {s : State} {m : MethodId} {args : Array Value} {below : List Frame} {meth : Method} {c : Code} {H : Heap} {locs : List Loc} {cells slots : Nat} {Q : State → Prop}
variable {M : q_M} {D : va_G} {dA : Nat → ClassId} {x0 x : q_S} {pc pc' len : Nat} {ins : ClassFile.Instr} {ls : Array Slot} {lv lv' : List (Nat × Value)} {st st' : List Value}
theorem q_same {F : String × String × String × Bool} {ref : String} (hts : ∀ w ∈ q_WS, w.before args s = true) (h : ref = F.1 ∨ Cond.sameField ref F.1 F.2.1 F.2.2.1 ∈ q_WS) : ∀ z, s.fieldFound? F.1 F.2.1 F.2.2.1 = some z → s.fieldFound? ref F.2.1 F.2.2.1 = some z := by
  intro z hz
  rcases h with h | h
  · rw [h]; exact hz
  · exact u_same (hts _ h) z hz
set_option maxHeartbeats 4000000 in
theorem q_S1 (X : q_Cx p s m args meth c M D dA x0) (hR1 : 1 ≤ R.frames) (hR2 : 64 ≤ R.locals) (hcc : cells ≤ R.cells) (hss : slots ≤ R.slots) (hl : lv_has ls M.2.2.1 lv) (hc1 : q_c1 lv) (I : q_In D dA x0 s.heap x H locs) (hd : decode M.2.1 pc = .ok (ins, len)) (h : q_smp M pc ins len lv st x pc' lv' st')
    (k : ∀ ls' : Array Slot, lv_has ls' M.2.2.1 lv' → q_c1 lv' → W p l e R s m args below meth c H locs cells slots Q (F0 m pc' ls' st')) : W p l e R s m args below meth c H locs cells slots Q (F0 m pc ls st) := by
  obtain ⟨hx, hb, hml, hown, hts, hKv, hKh, hnm, hsz⟩ := X
  obtain ⟨⟨ws, hP, hD, hO, hAi, hAr, -, -⟩, hHz, hMo, hS⟩ := I
  have hK := hKv.1
  have hen := hMo.2.2.2
  have hnO : s.vm.findClass "[Ljava/lang/Object;" = some (dA 2) := va_nmO (hK.2 2 _ rfl).2 (by decide +kernel)
  cases ins with
  | iconst n => obtain ⟨rfl, rfl, rfl, rfl⟩ := h; exact lv_iconst hx hb hd rfl (k ls hl hc1)
  | bipush n => obtain ⟨rfl, rfl, rfl, rfl⟩ := h; exact lv_bipush hx hb hd rfl (k ls hl hc1)
  | sipush n => obtain ⟨rfl, rfl, rfl, rfl⟩ := h; exact lv_sipush hx hb hd rfl (k ls hl hc1)
  | aconst_null => obtain ⟨rfl, rfl, rfl, rfl⟩ := h; exact lv_null hx hb hd (k ls hl hc1)
  | iload_n i => obtain ⟨rfl, rfl, rfl, v, hv, rfl⟩ := h; exact lv_iload_n hx hb hd rfl (hl.2.2 _ hv) (k ls hl hc1)
  | iload i => obtain ⟨rfl, rfl, rfl, v, hv, rfl⟩ := h; exact lv_iload hx hb hd (hl.2.2 _ hv) (k ls hl hc1)
  | aload_n i =>
    obtain ⟨rfl, rfl, rfl, r, hv, rfl⟩ := h
    cases r with
    | none => exact lv_aload_nN hx hb hd rfl (hl.2.2 _ hv) (k ls hl hc1)
    | some a => exact lv_aload_n hx hb hd rfl (hl.2.2 _ hv) (k ls hl hc1)
  | aload i =>
    obtain ⟨rfl, rfl, rfl, r, hv, rfl⟩ := h
    cases r with
    | none => exact lv_aloadN hx hb hd (hl.2.2 _ hv) (k ls hl hc1)
    | some a => exact lv_aload hx hb hd (hl.2.2 _ hv) (k ls hl hc1)
  | istore_n i => obtain ⟨rfl, rfl, hn, v, rfl, rfl⟩ := h; exact lv_istore_n hx hb hd rfl hl hn (q_st1_eq hc1 _ _) (fun ls' h' => k ls' h' (q_c1_st hc1 rfl))
  | istore i => obtain ⟨rfl, rfl, hn, v, rfl, rfl⟩ := h; exact lv_istore hx hb hd hl hn (q_st1_eq hc1 _ _) (fun ls' h' => k ls' h' (q_c1_st hc1 rfl))
  | astore_n i =>
    obtain ⟨rfl, rfl, hn, r, rfl, rfl⟩ := h
    cases r with
    | none => exact lv_astore_nN hx hb hd rfl hl hn (q_st1_eq hc1 _ _) (fun ls' h' => k ls' h' (q_c1_st hc1 rfl))
    | some a => exact lv_astore_n hx hb hd rfl hl hn (q_st1_eq hc1 _ _) (fun ls' h' => k ls' h' (q_c1_st hc1 rfl))
  | astore i =>
    obtain ⟨rfl, rfl, hn, r, rfl, rfl⟩ := h
    cases r with
    | none => exact lv_astoreN hx hb hd hl hn (q_st1_eq hc1 _ _) (fun ls' h' => k ls' h' (q_c1_st hc1 rfl))
    | some a => exact lv_astore hx hb hd hl hn (q_st1_eq hc1 _ _) (fun ls' h' => k ls' h' (q_c1_st hc1 rfl))
  | iinc i n =>
    obtain ⟨rfl, rfl, hn, rfl, v, hv, rfl⟩ := h
    obtain ⟨k0, hk⟩ := List.mem_iff_getElem?.mp hv
    exact lv_iinc hx hb hd hl hk rfl hn (q_st1_eq hc1 _ _) (fun ls' h' => k ls' h' (q_c1_st hc1 rfl))
  | iadd => obtain ⟨rfl, rfl, rfl, a, b, rest, rfl, rfl⟩ := h; exact lv_iadd hx hb hd (k ls hl hc1)
  | isub => obtain ⟨rfl, rfl, rfl, a, b, rest, rfl, rfl⟩ := h; exact lv_isub hx hb hd (k ls hl hc1)
  | imul => obtain ⟨rfl, rfl, rfl, a, b, rest, rfl, rfl⟩ := h; exact lv_imul hx hb hd (k ls hl hc1)
  | iand => obtain ⟨rfl, rfl, rfl, a, b, rest, rfl, rfl⟩ := h; exact lv_iand hx hb hd (k ls hl hc1)
  | ior => obtain ⟨rfl, rfl, rfl, a, b, rest, rfl, rfl⟩ := h; exact lv_ior hx hb hd (k ls hl hc1)
  | ixor => obtain ⟨rfl, rfl, rfl, a, b, rest, rfl, rfl⟩ := h; exact lv_ixor hx hb hd (k ls hl hc1)
  | irem => obtain ⟨rfl, rfl, rfl, a, b, rest, hne, rfl, rfl⟩ := h; exact lv_irem hx hb hd hne (k ls hl hc1)
  | ishl => obtain ⟨rfl, rfl, rfl, a, b, rest, rfl, rfl⟩ := h; exact lv_ishl hx hb hd (k ls hl hc1)
  | ishr => obtain ⟨rfl, rfl, rfl, a, b, rest, rfl, rfl⟩ := h; exact lv_ishr hx hb hd (k ls hl hc1)
  | iushr => obtain ⟨rfl, rfl, rfl, a, b, rest, rfl, rfl⟩ := h; exact lv_iushr hx hb hd rfl (k ls hl hc1)
  | i2l => obtain ⟨rfl, rfl, rfl, a, rest, rfl, rfl⟩ := h; exact lv_i2l hx hb hd rfl (k ls hl hc1)
  | lcmp => obtain ⟨rfl, rfl, rfl, a, b, rest, rfl, rfl⟩ := h; exact W.lcmp hx hb hd (k ls hl hc1)
  | dup => obtain ⟨rfl, rfl, rfl, v, rest, hv, rfl, rfl⟩ := h; exact lv_dup hx hb hd hv (k ls hl hc1)
  | pop => obtain ⟨rfl, rfl, rfl, v, hv, rfl⟩ := h; exact lv_pop hx hb hd hv (k ls hl hc1)
  | dup_x1 => obtain ⟨rfl, rfl, rfl, v, w, rest, hv, hw, rfl, rfl⟩ := h; exact lv_dup_x1 hx hb hd hv hw (k ls hl hc1)
  | dup2 => obtain ⟨rfl, rfl, rfl, v, w, rest, hv, hw, rfl, rfl⟩ := h; exact lv_dup2_11 hx hb hd hv hw (k ls hl hc1)
  | ifCond cn off =>
    obtain ⟨rfl, rfl, v, tgt, rfl, ht, hc⟩ := h
    cases cn with
    | eq =>
      rcases hc with ⟨hc, rfl⟩ | ⟨hc, rfl⟩
      · exact lv_if_eq hx hb hd ht (fun _ => k ls hl hc1) (fun z => absurd hc z)
      · exact lv_if_eq hx hb hd ht (fun z => absurd z hc) (fun _ => k ls hl hc1)
    | ne =>
      rcases hc with ⟨hc, rfl⟩ | ⟨hc, rfl⟩
      · exact lv_if_ne hx hb hd ht (fun _ => k ls hl hc1) (fun z => absurd z hc)
      · exact lv_if_ne hx hb hd ht (fun z => absurd z hc) (fun _ => k ls hl hc1)
    | lt =>
      rcases hc with ⟨hc, rfl⟩ | ⟨hc, rfl⟩
      · exact lv_if_lt hx hb hd ht (fun _ => k ls hl hc1) (fun z => absurd hc z)
      · exact lv_if_lt hx hb hd ht (fun z => absurd z hc) (fun _ => k ls hl hc1)
    | ge =>
      rcases hc with ⟨hc, rfl⟩ | ⟨hc, rfl⟩
      · exact lv_if_ge hx hb hd ht (fun _ => k ls hl hc1) (fun z => absurd hc z)
      · exact lv_if_ge hx hb hd ht (fun z => absurd z hc) (fun _ => k ls hl hc1)
    | gt =>
      rcases hc with ⟨hc, rfl⟩ | ⟨hc, rfl⟩
      · exact lv_if_gt hx hb hd ht (fun _ => k ls hl hc1) (fun z => absurd hc z)
      · exact lv_if_gt hx hb hd ht (fun z => absurd z hc) (fun _ => k ls hl hc1)
    | le =>
      rcases hc with ⟨hc, rfl⟩ | ⟨hc, rfl⟩
      · exact lv_if_le hx hb hd ht (fun _ => k ls hl hc1) (fun z => absurd hc z)
      · exact lv_if_le hx hb hd ht (fun z => absurd z hc) (fun _ => k ls hl hc1)
  | if_icmp cn off =>
    obtain ⟨rfl, rfl, a, b, tgt, rfl, ht, hc⟩ := h
    cases cn with
    | eq =>
      rcases hc with ⟨hc, rfl⟩ | ⟨hc, rfl⟩
      · exact lv_icmp_eq hx hb hd ht (fun _ => k ls hl hc1) (fun z => absurd hc z)
      · exact lv_icmp_eq hx hb hd ht (fun z => absurd z hc) (fun _ => k ls hl hc1)
    | ne =>
      rcases hc with ⟨hc, rfl⟩ | ⟨hc, rfl⟩
      · exact lv_icmp_ne hx hb hd ht (fun _ => k ls hl hc1) (fun z => absurd z hc)
      · exact lv_icmp_ne hx hb hd ht (fun z => absurd z hc) (fun _ => k ls hl hc1)
    | lt =>
      rcases hc with ⟨hc, rfl⟩ | ⟨hc, rfl⟩
      · exact lv_icmp_lt hx hb hd ht (fun _ => k ls hl hc1) (fun z => absurd hc z)
      · exact lv_icmp_lt hx hb hd ht (fun z => absurd z hc) (fun _ => k ls hl hc1)
    | ge =>
      rcases hc with ⟨hc, rfl⟩ | ⟨hc, rfl⟩
      · exact lv_icmp_ge hx hb hd ht (fun _ => k ls hl hc1) (fun z => absurd hc z)
      · exact lv_icmp_ge hx hb hd ht (fun z => absurd z hc) (fun _ => k ls hl hc1)
    | gt =>
      rcases hc with ⟨hc, rfl⟩ | ⟨hc, rfl⟩
      · exact lv_icmp_gt hx hb hd ht (fun _ => k ls hl hc1) (fun z => absurd hc z)
      · exact lv_icmp_gt hx hb hd ht (fun z => absurd z hc) (fun _ => k ls hl hc1)
    | le =>
      rcases hc with ⟨hc, rfl⟩ | ⟨hc, rfl⟩
      · exact lv_icmp_le hx hb hd ht (fun _ => k ls hl hc1) (fun z => absurd hc z)
      · exact lv_icmp_le hx hb hd ht (fun z => absurd z hc) (fun _ => k ls hl hc1)
  | if_acmp cn off =>
    obtain ⟨rfl, rfl, a, b, tgt, rfl, ht, hc⟩ := h
    cases cn with
    | eq =>
      rcases hc with ⟨hc, rfl⟩ | ⟨hc, rfl⟩
      · exact lv_acmp_eq hx hb hd ht (fun _ => k ls hl hc1) (fun z => absurd hc z)
      · exact lv_acmp_eq hx hb hd ht (fun z => absurd z hc) (fun _ => k ls hl hc1)
    | ne =>
      rcases hc with ⟨hc, rfl⟩ | ⟨hc, rfl⟩
      · exact lv_acmp_ne hx hb hd ht (fun _ => k ls hl hc1) (fun z => absurd z hc)
      · exact lv_acmp_ne hx hb hd ht (fun z => absurd z hc) (fun _ => k ls hl hc1)
  | ifnull off =>
    obtain ⟨rfl, rfl, r, tgt, rfl, ht, hc⟩ := h
    cases r with
    | none =>
      rcases hc with ⟨hc, rfl⟩ | ⟨hc, rfl⟩
      · exact lv_ifnullN hx hb hd ht (k ls hl hc1)
      · exact absurd rfl hc
    | some a =>
      rcases hc with ⟨hc, rfl⟩ | ⟨hc, rfl⟩
      · cases hc
      · exact lv_ifnull hx hb hd (k ls hl hc1)
  | ifnonnull off =>
    obtain ⟨rfl, rfl, r, tgt, rfl, ht, hc⟩ := h
    cases r with
    | none =>
      rcases hc with ⟨hc, rfl⟩ | ⟨hc, rfl⟩
      · exact absurd rfl hc
      · exact lv_ifnonnullN hx hb hd (k ls hl hc1)
    | some a =>
      rcases hc with ⟨hc, rfl⟩ | ⟨hc, rfl⟩
      · exact lv_ifnonnull hx hb hd ht (k ls hl hc1)
      · cases hc
  | goto off => obtain ⟨rfl, rfl, rfl, tgt, ht, rfl⟩ := h; exact lv_goto hx hb hd ht (k ls hl hc1)
  | getfield idx =>
    obtain ⟨rfl, rfl, rfl, en, a, rest, he, h1, h2, rfl, hal, rfl⟩ := h
    obtain ⟨q, hq, hk, hty, hfin, hlink, hsm, hde⟩ := q_FLok en he
    obtain ⟨own, idx', ci, fk, ref, host, ty, fin⟩ := en
    dsimp only at h1 h2 hq hk hty hfin hlink hsm hde hal k ⊢
    subst h1 h2
    obtain ⟨q0, fs, q', hq', hw, hlen, hfs⟩ := hO ci a hal
    cases hq.symm.trans hq'
    obtain ⟨tyf, hin, -, -⟩ := q_Cok ci q hq
    cases host with
    | none => exact va_get (ws := ws) hx hb hts hin hown hK hP q0 hw hq fk hk (hts _ hlink) (q_same hts hsm) (hfs fk hk) hd (k ls hl hc1)
    | some hst => exact va_getN (ws := ws) hx hb hts hin hown hK hP q0 hw hq fk hk (va_Nw.use rfl (hKv.2.1 _ hlink)) (q_same hts hsm) (hfs fk hk) hd (k ls hl hc1)
  | getstatic idx =>
    obtain ⟨rfl, rfl, rfl, he, rfl⟩ := h
    have e0 : q_z0 x = q_z0 x0 := by unfold q_z0; rw [hen]
    rw [e0] at k
    exact va_gets hx hb hKh.1 hS hown (hts _ (q_SLok _ he)) (fun _ z => z) hd (k ls hl hc1)
  | iaload =>
    obtain ⟨rfl, rfl, rfl, a, i, rest, rfl, hc⟩ := h
    rcases hc with ⟨t, n, f, hkd, ha, hin, rfl⟩ | ⟨rfl, hin, rfl⟩
    · obtain ⟨q0, hw⟩ := hAi t a n f ha
      rw [hkd] at hw
      exact va_iald (ws := ws) hx hb hK hP q0 0 hw rfl hin hd (k ls hl hc1)
    · have e1 : q_sb x = q_sb x0 := by unfold q_sb; rw [hen]
      have e2 : q_sL x = q_sL x0 := by unfold q_sL; rw [hen]
      have e3 : q_sx x = q_sx x0 := by unfold q_sx; rw [hen]
      rw [e2] at hin
      rw [e3] at k
      rw [e1]
      exact va_sld hx hb hKh.2.2.1 hKh.2.2.2.1 hKh.2.2.2.2 hS hin hd (k ls hl hc1)
  | baload =>
    obtain ⟨rfl, rfl, rfl, a, i, rest, t, n, f, rfl, hkd, ha, hin, rfl⟩ := h
    obtain ⟨q0, hw⟩ := hAi t a n f ha
    rw [hkd] at hw
    exact va_zald (ws := ws) hx hb hK hP q0 1 hw rfl hin hd (k ls hl hc1)
  | aaload =>
    obtain ⟨rfl, rfl, rfl, a, i, rest, t, n, f, rfl, ha, hin, rfl⟩ := h
    obtain ⟨q0, hw⟩ := hAr t a n f ha
    exact va_aldq (ws := ws) hx hb hK hP q0 2 hw rfl hin hd (k ls hl hc1)
  | arraylength =>
    obtain ⟨rfl, rfl, rfl, a, rest, rfl, hc⟩ := h
    rcases hc with ⟨t, n, f, ha, rfl⟩ | ⟨t, n, f, ha, rfl⟩ | ⟨rfl, rfl⟩ | ⟨rfl, rfl⟩
    · obtain ⟨q0, hw⟩ := hAi t a n f ha
      rcases q_kd_or t with hkd | hkd
      · rw [hkd] at hw
        exact va_alen (ws := ws) hx hb hK hP q0 0 hw rfl rfl hd (k ls hl hc1)
      · rw [hkd] at hw
        exact va_alen (ws := ws) hx hb hK hP q0 1 hw rfl rfl hd (k ls hl hc1)
    · obtain ⟨q0, hw⟩ := hAr t a n f ha
      exact va_alen (ws := ws) hx hb hK hP q0 2 hw rfl rfl hd (k ls hl hc1)
    · have e0 : q_z0 x = q_z0 x0 := by unfold q_z0; rw [hen]
      rw [e0]
      exact va_tlen hx hb hKh.2.1 hS rfl hd (k ls hl hc1)
    · have e1 : q_sb x = q_sb x0 := by unfold q_sb; rw [hen]
      have e2 : q_sL x = q_sL x0 := by unfold q_sL; rw [hen]
      rw [e2] at k
      rw [e1]
      exact va_slen hx hb hKh.2.2.1 hKh.2.2.2.1 hKh.2.2.2.2 hS hd (k ls hl hc1)
  | checkcast idx =>
    obtain ⟨rfl, rfl, rfl, rfl, hc⟩ := h
    rcases hc with ⟨rest, rfl⟩ | ⟨a, ci, rest, q, rfl, hal, hq, he⟩ | ⟨a, t, n, f, rest, rfl, ha, he⟩
    · exact lv_castN hx hb hd (k ls hl hc1)
    · obtain ⟨q0, fs, q', hq', hw, -, -⟩ := hO ci a hal
      cases hq.symm.trans hq'
      exact va_castS hx hb hown (hts _ (q_KLok _ he)) (hK.1 ci q hq).2 (va_recv hK hP hq hw) hd (k ls hl hc1)
    · obtain ⟨q0, hw⟩ := hAr t a n f ha
      exact va_castA (ws := ws) hx hb hown (hts _ (q_KLok _ he)) hP q0 hw hnO hd (k ls hl hc1)
  | ldc2_w idx => obtain ⟨rfl, rfl, rfl, v, he, rfl⟩ := h; exact lv_ldc2 hx hb hown (hts _ (q_DLok _ he)) hd (k ls hl hc1)
  | ldc idx =>
    obtain ⟨rfl, rfl, rfl, h⟩ := h
    rcases h with ⟨he, rfl⟩ | ⟨v, he, rfl⟩
    · have e0 : q_mo x = q_mo x0 := by unfold q_mo; rw [hen]
      rw [e0] at k
      exact va_ldcM hx hb hown (hts _ (q_MLok _ he)) hKv.2.2.2.1 hd (k ls hl hc1)
    · exact lv_ldc hx hb hown (hts _ (q_ILok _ he)) hd (k ls hl hc1)
  | ldc_w idx => obtain ⟨rfl, rfl, rfl, v, he, rfl⟩ := h; exact lv_ldcw hx hb hown (hts _ (q_ILok _ he)) hd (k ls hl hc1)
  | tableswitch df lo hi offs =>
    obtain ⟨rfl, v, rfl, hc⟩ := h
    rcases hc with ⟨hc, ht⟩ | ⟨h1, h2, off, ho, ht⟩
    · exact lv_tableOut hx hb hd hc ht (k ls hl hc1)
    · exact lv_tableIn hx hb hd h1 h2 ho ht (k ls hl hc1)
  | invokespecial idx =>
    obtain ⟨rfl, rfl, rfl, he, hsum, a, rfl⟩ := h
    exact W.objInit hx hb hown (hts _ (q_OLok _ he)) (hts _ q_ob1) (hts _ q_ob2) rfl (hl.1.trans hml.symm) rfl hd hR1 (by show 2 * 0 + _ + 12 ≤ _; omega) (k ls hl hc1)
  | invokestatic idx =>
    obtain ⟨rfl, rfl, rfl, a, b, rest, hsum, rfl, hc⟩ := h
    rcases hc with ⟨he, rfl⟩ | ⟨he, rfl⟩
    · exact va_mmax hx hb (hml.trans hl.1.symm) hown (hts _ (q_XLok _ he)) (hts _ q_mx1) (hts _ q_mx2) (hts _ q_mx3) hR1 (by omega) hcc hss hd (k ls hl hc1)
    · exact va_mmin hx hb (hml.trans hl.1.symm) hown (hts _ (q_VLok _ he)) (hts _ q_mn1) (hts _ q_mx2) (hts _ q_mn3) hR1 (by omega) hcc hss hd (k ls hl hc1)
  | invokevirtual idx =>
    obtain ⟨rfl, rfl, rfl, he, a, t, n, f, rest, hsum, rfl, ha, rfl⟩ := h
    obtain ⟨q0, hw⟩ := hAr t a n f ha
    have e0 : q_mo x = q_mo x0 := by unfold q_mo; rw [hen]
    rw [e0] at k
    have hcell := hP q0 _ hw
    exact va_getC (C := "[Ljava/lang/Object;") hx hb (hml.trans hl.1.symm) hown (hts _ (q_GLok _ he)) (va_Dc.use hKv.2.2.2.2) (hts _ q_gc1) (hts _ q_gc2) (hts _ q_gc3) hKv.2.2.2.1 ⟨_, hcell, rfl, hnO⟩ hR1 (by omega) hd (k ls hl hc1)
  | _ => exact False.elim h
end QS1
