/-! Each instruction that changes the pure state: the machine follows. -/
theorem q_updI (f : Nat → Int32) (i : Nat) (v : Int32) : updV (fun j => Value.int (f j)) i (.int v) = fun j => Value.int (upd f i v j) := by
  funext j
  by_cases hj : j = i
  · subst hj; simp [updV, upd]
  · simp [updV, upd, hj]
theorem q_updR (f : Nat → Option Nat) (i : Nat) (r : Option Nat) : updV (fun j => va_rf (f j)) i (va_rf r) = fun j => va_rf (va_up f i r j) := by
  funext j
  by_cases hj : j = i
  · subst hj; simp [updV, va_up]
  · simp [updV, va_up, hj]
section QS2
variable {p : Program} {l : Launch} {e : Env} {R : Room} {s : State} {m : MethodId} {args : Array Value} {below : List Frame} {meth : Method} {c : Code} {H : Heap} {locs : List Loc} {cells slots : Nat} {Q : State → Prop}
variable {M : q_M} {D : va_G} {dA : Nat → ClassId} {x0 x x' : q_S} {pc pc' len : Nat} {ins : ClassFile.Instr} {ls : Array Slot} {lv lv' : List (Nat × Value)} {st st' : List Value}
set_option maxHeartbeats 4000000 in
theorem q_Wput (X : q_Cx p s m args meth c M D dA x0) (I : q_In D dA x0 s.heap x H locs) {idx a : Nat} {en : q_F} {v : Value} {rest : List Value} (hd : decode M.2.1 pc = .ok (.putfield idx, 3)) (he : en ∈ q_FL) (h1 : en.1 = M.1.cls) (h2 : en.2.1 = idx) (hal : q_al x en.2.2.1 a = true) (hna : narrow en.2.2.2.2.2.2.1 v = v) (hfi : fits en.2.2.2.2.2.2.1 v = true) (hff : en.2.2.2.2.2.2.2 = false ∨ (en.2.2.2.2.2.1 = none ∧ M.1.name = "<init>"))
    (k : ∀ (H1 : Heap) (locs1 : List Loc), q_In D dA x0 s.heap (q_putF x en.2.2.1 en.2.2.2.1 a v) H1 locs1 → W p l e R s m args below meth c H1 locs1 cells slots Q (F0 m (pc + 3) ls rest)) : W p l e R s m args below meth c H locs cells slots Q (F0 m pc ls (v :: .ref a :: rest)) := by
  obtain ⟨hx, hb, hml, hown, hts, hKv, hKh, hnm, hsz⟩ := X
  obtain ⟨⟨ws, hRw⟩, hHz, hMo, hS⟩ := I
  have hRw0 := hRw
  obtain ⟨hP, hD, hO, hAi, hAr, -, -⟩ := hRw0
  have hK := hKv.1
  obtain ⟨q, hq, hk, hty, hfin, hlink, hsm, hde⟩ := q_FLok en he
  obtain ⟨own, idx', ci, fk, ref, host, ty, fin⟩ := en
  dsimp only at h1 h2 hq hk hty hfin hlink hsm hde hal hna hfi hff k ⊢
  subst h1 h2
  obtain ⟨q0, fs, q', hq', hw, hlen, hfs⟩ := hO ci a hal
  cases hq.symm.trans hq'
  obtain ⟨tyf, hin, htyf, hnmf⟩ := q_Cok ci q hq
  have hap := va_apart (own := M.1.cls) hts hin tyf htyf hnmf hK hq
  obtain ⟨r, hr1, cell, q1, q2, q3, q4⟩ := hP q0 _ hw
  have hr : r = q := Option.some.inj (hr1.symm.trans hq)
  subst hr
  obtain ⟨hSl, hfc, kC, hkC, hkind⟩ := hK.1 ci _ hq
  obtain ⟨cf, kf, fi, f, hi, hsl⟩ := hSl fk hk
  have hst := (u_facts hfc hkC (u_lays hts hin hk) hi).1
  have hlay := hts _ (hin _ (u_in_lay hk))
  have hA : q_A x0 a := hMo.2.2.1 a (hD.2 q0 _ hw)
  have fin0 : ∀ H' : Heap, H'[a]? = some (cell.setSlot f.slot v) → H'.size = H.size → (∀ z, z ≠ a → H'[z]? = H[z]?) → W p l e R s m args below meth c H' (locs ++ [⟨a, f.slot⟩]) cells slots Q (F0 m (pc + 3) ls rest) := by
    intro H' e1 e2 e3
    rw [hsl] at e1 ⊢
    exact k H' _ ⟨⟨_, q_Rw_putF hRw hq hk hlen hfs hw (hP.set hD hw ⟨_, hq, t_OB.to (V := updV (vp_V fs) fk v) ⟨_, e1, q2, q3, t_set q4 hap hk v⟩ (fun j _ => vp_updV_set (by omega) v j)⟩ e3)⟩, e2.trans hHz, hMo, hS.put e2 e3 hA⟩
  cases fin with
  | false =>
    unfold u_lay at hlay
    rw [if_neg (by rw [hfin]; decide)] at hlay
    have h6 := u_store hfc hkC hkind hlay hi hty hna hfi
    cases host with
    | none => exact W.putK hx hb (f := f) ⟨hown, hts _ hlink, ⟨_, _, _, q_same hts hsm _ hi⟩, hst⟩ (by rw [q2]; exact h6) q1 q3 (by rw [hsl]; exact k2_hasslot (q4 fk hk)) rfl rfl hd fin0
    | some ho => exact va_WputK hx hb (f := f) hown (va_Nw.use rfl (hKv.2.1 _ hlink)) (q_same hts hsm _ hi) hst (by rw [q2]; exact h6) q1 q3 (by rw [hsl]; exact k2_hasslot (q4 fk hk)) rfl rfl hd fin0
  | true =>
    rcases hff with hff | ⟨hff, hini⟩
    · cases hff
    · subst hff
      unfold u_lay at hlay
      rw [if_pos hfin] at hlay
      have hcf : m.cls = cf := by
        obtain ⟨_, _, c', _, _, _, -, -, hf', -, -, -, hown2, -⟩ := Cond.laysFinal_spec hlay
        have e1 : c' = cf := by have := hi.symm.trans hf'; simp at this; exact this.1.symm
        rw [hde rfl rfl] at hown2
        rw [← e1]; exact Option.some.inj (hown.symm.trans hown2)
      have h6 := u_fits hfc hkC hkind (Or.inr hlay) hi hty hna hfi
      exact W.putFinK hx hb hown (hts _ hlink) (q_same hts hsm _ hi) hst hcf (hnm hini) (by rw [q2]; exact h6) q1 q3 (by rw [hsl]; exact k2_hasslot (q4 fk hk)) rfl rfl hd fin0
set_option maxHeartbeats 4000000 in
theorem q_S2 (X : q_Cx p s m args meth c M D dA x0) (hR1 : 1 ≤ R.frames) (hR2 : 64 ≤ R.locals) (hl : lv_has ls M.2.2.1 lv) (I : q_In D dA x0 s.heap x H locs) (hd : decode M.2.1 pc = .ok (ins, len)) (h : q_hp M pc ins len lv st x pc' lv' st' x') (hc1 : q_sz x' - q_sz x0 ≤ R.cells) (hc2 : q_sl x' - q_sl x0 ≤ R.slots)
    (k : ∀ (ls' : Array Slot) (H1 : Heap) (locs1 : List Loc), lv_has ls' M.2.2.1 lv' → q_In D dA x0 s.heap x' H1 locs1 → W p l e R s m args below meth c H1 locs1 (q_sz x' - q_sz x0) (q_sl x' - q_sl x0) Q (F0 m pc' ls' st')) : W p l e R s m args below meth c H locs (q_sz x - q_sz x0) (q_sl x - q_sl x0) Q (F0 m pc ls st) := by
  cases ins with
  | putfield idx =>
    obtain ⟨rfl, rfl, rfl, en, a, v, he, h1, h2, rfl, hal, hna, hfi, hff, rfl⟩ := h
    exact q_Wput X I hd he h1 h2 hal hna hfi hff (fun H1 locs1 I1 => k ls H1 locs1 hl I1)
  | iastore =>
    obtain ⟨rfl, rfl, rfl, a, t, n, i, v, f, rfl, hkd, ha, hin, rfl⟩ := h
    obtain ⟨hx, hb, hml, hown, hts, hKv, hKh, hnm, hsz⟩ := X
    obtain ⟨⟨ws, hRw⟩, hHz, hMo, hS⟩ := I
    have hRw0 := hRw
    obtain ⟨hP, hD, hO, hAi, hAr, -, -⟩ := hRw0
    obtain ⟨q0, hw⟩ := hAi t a n f ha
    have hA : q_A x0 a := hMo.2.2.1 a (hD.2 q0 _ hw)
    have hcell := hP q0 _ hw
    have hcl : dA (q_kd t) = dA 0 := by rw [hkd]
    refine W.iast hx hb hcell (by rw [hcl]; exact (hKv.1.2 0 _ rfl).1 n (fun j => .int (f j))) (fun q => by cases q) (by show ¬ (i < 0 ∨ (arrV _ _ _).slots.size ≤ _); rw [arrV_size]; exact hin) rfl rfl hd fun H1 e1 z1 oq => ?_
    refine k ls H1 _ hl ⟨⟨_, q_Rw_putI hRw ha hw (hP.set hD hw ?_ oq)⟩, z1.trans hHz, hMo, hS.put z1 oq hA⟩
    show H1[a]? = some (vp_cell _ _)
    rw [e1, vp_cell_i, vp_cell_i, arrV_store, q_updI]
  | bastore =>
    obtain ⟨rfl, rfl, rfl, a, t, n, i, v, f, rfl, hkd, ha, hin, rfl⟩ := h
    obtain ⟨hx, hb, hml, hown, hts, hKv, hKh, hnm, hsz⟩ := X
    obtain ⟨⟨ws, hRw⟩, hHz, hMo, hS⟩ := I
    have hRw0 := hRw
    obtain ⟨hP, hD, hO, hAi, hAr, -, -⟩ := hRw0
    obtain ⟨q0, hw⟩ := hAi t a n f ha
    have hA : q_A x0 a := hMo.2.2.1 a (hD.2 q0 _ hw)
    have hcell := hP q0 _ hw
    have hcl : dA (q_kd t) = dA 1 := by rw [hkd]
    refine W.zast hx hb hcell (by rw [hcl]; exact (hKv.1.2 1 _ rfl).1 n (fun j => .int (f j))) (fun q => by cases q) (by show ¬ (i < 0 ∨ (arrV _ _ _).slots.size ≤ _); rw [arrV_size]; exact hin) rfl rfl hd fun H1 e1 z1 oq => ?_
    refine k ls H1 _ hl ⟨⟨_, q_Rw_putI hRw ha hw (hP.set hD hw ?_ oq)⟩, z1.trans hHz, hMo, hS.put z1 oq hA⟩
    show H1[a]? = some (vp_cell _ _)
    rw [e1, vp_cell_i, vp_cell_i, arrV_store]
    show some (arrV _ n (updV _ _ (.int (v &&& 1)))) = _
    rw [q_updI]
  | aastore =>
    obtain ⟨rfl, rfl, rfl, a, t, n, i, r, f, rfl, ha, hin, hr, rfl⟩ := h
    obtain ⟨hx, hb, hml, hown, hts, hKv, hKh, hnm, hsz⟩ := X
    obtain ⟨⟨ws, hRw⟩, hHz, hMo, hS⟩ := I
    have hRw0 := hRw
    obtain ⟨hP, hD, hO, hAi, hAr, -, -⟩ := hRw0
    obtain ⟨q0, hw⟩ := hAr t a n f ha
    have hA : q_A x0 a := hMo.2.2.1 a (hD.2 q0 _ hw)
    have hcell := hP q0 _ hw
    have hK := hKv.1
    have hlt : i.toNatClampNeg < n := Nat.not_le.mp fun q => hin (Or.inr q)
    have hn0 : ¬ i < 0 := fun q => hin (Or.inl q)
    have fin0 : ∀ H1 : Heap, H1[a]? = some ((vp_cell (dA 2) (n, .inr (.inr (.inr (.inr f))))).setSlot i.toNatClampNeg (va_rf r)) → H1.size = H.size → (∀ z, z ≠ a → H1[z]? = H[z]?) → W p l e R s m args below meth c H1 (locs ++ [⟨a, i.toNatClampNeg⟩]) (q_sz x - q_sz x0) (q_sl x - q_sl x0) Q (F0 m (pc + 1) ls st') := by
      intro H1 e1 z1 oq
      refine k ls H1 _ hl ⟨⟨_, q_Rw_putR hRw ha hw (hP.set hD hw ?_ oq)⟩, z1.trans hHz, hMo, hS.put z1 oq hA⟩
      show H1[a]? = some (vp_cell _ _)
      rw [e1, vp_cell_q, vp_cell_q, arrV_store, q_updR]
    cases r with
    | none => exact va_WaastN (C := "java/lang/Object") hx hb hcell ((hK.2 2 _ rfl).1 n (fun j => va_rf (f j))) (fun q => by cases q) (by show ¬ (i < 0 ∨ (arrV _ _ _).slots.size ≤ _); rw [arrV_size]; exact hin) rfl rfl hd fin0
    | some v =>
      obtain ⟨ci, hal, hca⟩ := hr v rfl
      obtain ⟨qk, fs, q, hq, hwv, -, -⟩ := hO ci v hal
      obtain ⟨r', hr', cellV, g1, g2, g3, -⟩ := hP qk _ hwv
      have hcls := (hK.1 ci q hq).2
      obtain ⟨kA, comp, k1, k2, k3, -⟩ := (hK.2 2 _ rfl).2
      obtain ⟨kE, hkE, -⟩ := Vm.findClass_spec k3
      obtain ⟨c0, t1, f1, f2, f3⟩ := Cond.castable_spec (va_Nw.use (A := args) rfl (hKv.2.1 _ (q_ALok ci q hca hq)))
      cases hcls.1.symm.trans f1
      cases k3.symm.trans f2
      obtain ⟨kC, hkC, -⟩ := hcls.2
      exact W.aast hx hb hcell (fun q h => by cases h) (fun h => by cases h) k1 k2 rfl hkE ⟨hn0, by show _ < (arrV _ _ _).slots.size; rw [arrV_size]; exact hlt⟩ g1 (fun q h => by rw [g3] at h; cases h) (by rw [g2]; exact hkC) (by rw [g2]; exact f3) rfl rfl hd fin0
  | new idx =>
    obtain ⟨rfl, rfl, rfl, en, he, h1, h2, rfl, rfl⟩ := h
    obtain ⟨hx, hb, hml, hown, hts, hKv, hKh, hnm, hsz⟩ := X
    obtain ⟨⟨ws, hRw⟩, hHz, hMo, hS⟩ := I
    obtain ⟨q, tyf, hq, hlen, htyf, hdv, hcl, hins, hini⟩ := q_NLok en he
    obtain ⟨own, idx', ci, fs⟩ := en
    dsimp only at h1 h2 hq hlen hdv hcl hins hini hc1 hc2 k ⊢
    subst h1 h2
    obtain ⟨tyf', hin, -, -⟩ := q_Cok ci q hq
    have hKn := hKv.1.1 ci _ hq
    have hm1 := hMo.1
    have hm2 := hMo.2.1
    have ec : q_sz x + 1 - q_sz x0 = (q_sz x - q_sz x0) + 1 := by omega
    have es : q_sl x + fs.length - q_sl x0 = (q_sl x - q_sl x0) + fs.length := by omega
    have hc1 : q_sz x + 1 - q_sz x0 ≤ R.cells := hc1
    have hc2 : q_sl x + fs.length - q_sl x0 ≤ R.slots := hc2
    refine W.newcK hx hb hown (hts _ hcl) (hts _ hins) (hts _ hini) rfl hd (by omega) (by omega) hKn.2.1 hHz fun H1 kC hkC e1 z1 o1 => ?_
    have hz1 : ∀ z : Nat, z < H.size → H1[z]? = H[z]? := fun z hz => o1 z (by omega)
    have hat : va_at D qC (q_sz x, .inr (ci, fs)) H1 := ⟨_, hq, (u_born tyf hts hin hKn hkC e1 htyf).to (fun j hj => hdv j hj)⟩
    have I1 : q_In D dA x0 s.heap (q_newO x ci fs.length (vp_V fs)) H1 locs := ⟨⟨_, q_Rw_newO hRw hHz hz1 hq hlen hat⟩, z1, ⟨Nat.le_trans hm1 (Nat.le_succ _), Nat.le_trans hm2 (Nat.le_add_right _ _), fun b hb' => by
        have hb' : (if b = q_sz x then true else q_ow x b) = true := hb'
        by_cases hbz : b = q_sz x
        · exact Or.inr (by omega)
        · rw [if_neg hbz] at hb'; exact hMo.2.2.1 b hb', hMo.2.2.2⟩, ⟨Nat.le_trans hS.1 (by omega), fun z h1 h2 => (hz1 z (Nat.lt_of_lt_of_le h1 hS.1)).trans (hS.2.1 z h1 h2), hS.2.2⟩⟩
    exact W.cs ec.symm (by rw [← hlen]; exact es.symm) (k ls H1 locs hl I1)
  | newarray ty =>
    obtain ⟨rfl, rfl, rfl, v, t, rest, rfl, hn0, hnb, hty, rfl, rfl⟩ := h
    obtain ⟨hx, hb, hml, hown, hts, hKv, hKh, hnm, hsz⟩ := X
    obtain ⟨⟨ws, hRw⟩, hHz, hMo, hS⟩ := I
    have hm1 := hMo.1
    have hm2 := hMo.2.1
    generalize hN : v.toNatClampNeg = N at *
    have ec : q_sz x + 1 - q_sz x0 = (q_sz x - q_sz x0) + 1 := by omega
    have es : q_sl x + N - q_sl x0 = (q_sl x - q_sl x0) + N := by omega
    have hc1 : q_sz x + 1 - q_sz x0 ≤ R.cells := hc1
    have hc2 : q_sl x + N - q_sl x0 ≤ R.slots := hc2
    have I1 : ∀ H1 : Heap, va_at D qC (q_sz x, .inl (dA (q_kd t), N, .inl (fun _ => 0))) H1 → H1.size = q_sz x + 1 → (∀ z, z < q_sz x → H1[z]? = H[z]?) → q_In D dA x0 s.heap (q_newI x t N) H1 locs := fun H1 hat z1 o1 => by
      have hz1 : ∀ z : Nat, z < H.size → H1[z]? = H[z]? := fun z hz => o1 z (by omega)
      exact ⟨⟨_, q_Rw_newI hRw hHz hz1 hat⟩, z1, ⟨Nat.le_trans hm1 (Nat.le_succ _), Nat.le_trans hm2 (Nat.le_add_right _ _), fun b hb' => by
        have hb' : (if b = q_sz x then true else q_ow x b) = true := hb'
        by_cases hbz : b = q_sz x
        · exact Or.inr (by omega)
        · rw [if_neg hbz] at hb'; exact hMo.2.2.1 b hb', hMo.2.2.2⟩, ⟨Nat.le_trans hS.1 (by omega), fun z h1 h2 => (hz1 z (Nat.lt_of_lt_of_le h1 hS.1)).trans (hS.2.1 z h1 h2), hS.2.2⟩⟩
    rcases hty with ⟨rfl, hkd⟩ | ⟨rfl, hkd⟩
    · refine va_newaK hx hb (hts _ q_arI) rfl hd rfl hn0 hN (show N * 4 ≤ 536870912 by omega) (by omega) (by omega) hHz fun H1 cA e1 z1 o1 hAr hNm => ?_
      have hcA : cA = dA 0 := Option.some.inj (hNm.symm.trans (hKv.1.2 0 _ rfl).2)
      refine W.cs ec.symm es.symm (k ls H1 locs hl (I1 H1 ?_ z1 o1))
      show H1[q_sz x]? = some (vp_cell _ _)
      rw [e1, hkd, hcA]
      rfl
    · refine va_newaK hx hb (hts _ q_arZ) rfl hd rfl hn0 hN (show N * 1 ≤ 536870912 by omega) (by omega) (by omega) hHz fun H1 cA e1 z1 o1 hAr hNm => ?_
      have hcA : cA = dA 1 := Option.some.inj (hNm.symm.trans (hKv.1.2 1 _ rfl).2)
      refine W.cs ec.symm es.symm (k ls H1 locs hl (I1 H1 ?_ z1 o1))
      show H1[q_sz x]? = some (vp_cell _ _)
      rw [e1, hkd, hcA]
      rfl
  | anewarray idx =>
    obtain ⟨rfl, rfl, rfl, he, v, t, rest, rfl, hn0, hnb, rfl, rfl⟩ := h
    obtain ⟨hx, hb, hml, hown, hts, hKv, hKh, hnm, hsz⟩ := X
    obtain ⟨⟨ws, hRw⟩, hHz, hMo, hS⟩ := I
    have hm1 := hMo.1
    have hm2 := hMo.2.1
    have ec : q_sz x + 1 - q_sz x0 = (q_sz x - q_sz x0) + 1 := by omega
    have es : q_sl x + v.toNatClampNeg - q_sl x0 = (q_sl x - q_sl x0) + v.toNatClampNeg := by omega
    have hc1 : q_sz x + 1 - q_sz x0 ≤ R.cells := hc1
    have hc2 : q_sl x + v.toNatClampNeg - q_sl x0 ≤ R.slots := hc2
    refine W.anew hx hb hown (hts _ (q_QLok _ he)) (va_AO.use hKv.2.2.1) rfl hd rfl hn0 (by omega) (by omega) (by omega) fun cA kA comp f1 f2 f3 f4 => ?_
    generalize hH1 : H.push ({ cls := cA, slots := Array.replicate v.toNatClampNeg .null, vm := .none } : Cell) = H1
    have z1 : H1.size = q_sz x + 1 := by rw [← hH1, Array.size_push, hHz]
    have e1 : H1[H.size]? = some (arrV cA v.toNatClampNeg (fun _ => .null)) := by rw [← hH1, Array.getElem?_push_size, ← arrV_new]
    have hz1 : ∀ z : Nat, z < H.size → H1[z]? = H[z]? := fun z hz => by rw [← hH1, Array.getElem?_push, if_neg (Nat.ne_of_lt hz)]
    obtain ⟨kA', comp', r1, r2, r3, r4⟩ := (hKv.1.2 2 _ rfl).2
    have hcA : cA = dA 2 := Option.some.inj (f1.symm.trans r4)
    have hat : va_at D qC (q_sz x, .inl (dA 2, v.toNatClampNeg, .inr (.inr (.inr (.inr (fun _ => none)))))) H1 := by
      show H1[q_sz x]? = some (vp_cell _ _)
      rw [← hHz, e1, hcA]
      rfl
    have I1 : q_In D dA x0 s.heap (q_newR x t v.toNatClampNeg) H1 locs := ⟨⟨_, q_Rw_newR hRw hHz hz1 hat⟩, z1, ⟨Nat.le_trans hm1 (Nat.le_succ _), Nat.le_trans hm2 (Nat.le_add_right _ _), fun b hb' => by
        have hb' : (if b = q_sz x then true else q_ow x b) = true := hb'
        by_cases hbz : b = q_sz x
        · exact Or.inr (by omega)
        · rw [if_neg hbz] at hb'; exact hMo.2.2.1 b hb', hMo.2.2.2⟩, ⟨Nat.le_trans hS.1 (by omega), fun z h1 h2 => (hz1 z (Nat.lt_of_lt_of_le h1 hS.1)).trans (hS.2.1 z h1 h2), hS.2.2⟩⟩
    rw [hHz]
    exact W.cs ec.symm es.symm (k ls H1 locs hl I1)
  | invokestatic idx =>
    obtain ⟨rfl, rfl, rfl, he, hsum, n, dp, sp, a0, a1, t0, t1, n0, n1, f, g, rfl, ha0, ha1, h1, h2, h3, h4, h5, hel, rfl⟩ := h
    obtain ⟨hx, hb, hml, hown, hts, hKv, hKh, hnm, hsz⟩ := X
    obtain ⟨⟨ws, hRw⟩, hHz, hMo, hS⟩ := I
    have hRw0 := hRw
    obtain ⟨hP, hD, hO, hAi, hAr, -, -⟩ := hRw0
    obtain ⟨q0, hw0⟩ := hAr t0 a0 n0 f ha0
    obtain ⟨q1, hw1⟩ := hAr t1 a1 n1 g ha1
    exact q_copy hx hb (hml.trans hl.1.symm) hown (hts _ (q_YLok _ he)) (hts _ q_ac1) (hts _ q_ac2) (hts _ q_ac3) hKv.1 hP hD q0 q1 hw0 hw1 h1 h2 h3 h4 h5 (fun i hi y hy => by
        obtain ⟨ci, hal, hca⟩ := hel i hi y hy
        obtain ⟨qk, fs, q, hq, hwv, -, -⟩ := hO ci y hal
        obtain ⟨c0, t1, f1, f2, f3⟩ := Cond.castable_spec (va_Nw.use (A := args) rfl (hKv.2.1 _ (q_ALok ci q hca hq)))
        exact va_rAny hKv.1 hP hwv hq (fun comp c1 g1 g2 => by
          cases g1.symm.trans f2
          cases g2.symm.trans f1
          exact f3)) hR1 (by omega) hd (fun H1 locs1 hPq z1 oq hL => k ls H1 locs1 hl ⟨⟨_, q_Rw_putR hRw ha1 hw1 hPq⟩, z1.trans hHz, hMo, ⟨Nat.le_trans hS.1 (by omega), fun z g1 g2 => by
            rw [oq z (fun e => g2 (by rw [e]; exact hMo.2.2.1 _ (hD.2 q1 _ hw1)))]
            exact hS.2.1 z g1 g2, fun z hz => by
            rcases hL z hz with hz | hz
            · exact hS.2.2 z hz
            · rw [hz]; exact hMo.2.2.1 _ (hD.2 q1 _ hw1)⟩⟩)
  | _ => exact False.elim h
end QS2
