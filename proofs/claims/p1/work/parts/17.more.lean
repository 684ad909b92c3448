/-! More locals do no harm; more depth does no harm. -/
theorem q_st1_sub {a b : List (Nat × Value)} (h : ∀ q ∈ a, q ∈ b) (i : Nat) (v : Value) : ∀ q ∈ q_st1 a i v, q ∈ q_st1 b i v := by
  intro q hq
  rcases List.mem_cons.mp hq with h1 | h1
  · rw [h1]; exact List.mem_cons_self
  · obtain ⟨h2, h3⟩ := List.mem_filter.mp h1
    exact List.mem_cons_of_mem _ (List.mem_filter.mpr ⟨h q h2, h3⟩)
set_option maxHeartbeats 4000000 in
theorem q_smp_sub {M : q_M} {pc : Nat} {ins : ClassFile.Instr} {len : Nat} {a b : List (Nat × Value)} {st : List Value} {x : q_S} {pc' : Nat} {a' : List (Nat × Value)} {st' : List Value} (h : q_smp M pc ins len a st x pc' a' st') (hs : ∀ q ∈ a, q ∈ b) : ∃ b', q_smp M pc ins len b st x pc' b' st' ∧ ∀ q ∈ a', q ∈ b' := by
  cases ins with
  | iload_n i => obtain ⟨e1, e2, rfl, v, hv, e⟩ := h; exact ⟨b, ⟨e1, e2, rfl, v, hs _ hv, e⟩, hs⟩
  | iload i => obtain ⟨e1, e2, rfl, v, hv, e⟩ := h; exact ⟨b, ⟨e1, e2, rfl, v, hs _ hv, e⟩, hs⟩
  | aload_n i => obtain ⟨e1, e2, rfl, v, hv, e⟩ := h; exact ⟨b, ⟨e1, e2, rfl, v, hs _ hv, e⟩, hs⟩
  | aload i => obtain ⟨e1, e2, rfl, v, hv, e⟩ := h; exact ⟨b, ⟨e1, e2, rfl, v, hs _ hv, e⟩, hs⟩
  | istore_n i => obtain ⟨e1, e2, e3, v, e, rfl⟩ := h; exact ⟨_, ⟨e1, e2, e3, v, e, rfl⟩, q_st1_sub hs _ _⟩
  | istore i => obtain ⟨e1, e2, e3, v, e, rfl⟩ := h; exact ⟨_, ⟨e1, e2, e3, v, e, rfl⟩, q_st1_sub hs _ _⟩
  | astore_n i => obtain ⟨e1, e2, e3, v, e, rfl⟩ := h; exact ⟨_, ⟨e1, e2, e3, v, e, rfl⟩, q_st1_sub hs _ _⟩
  | astore i => obtain ⟨e1, e2, e3, v, e, rfl⟩ := h; exact ⟨_, ⟨e1, e2, e3, v, e, rfl⟩, q_st1_sub hs _ _⟩
  | iinc i n => obtain ⟨e1, e2, e3, e4, v, hv, rfl⟩ := h; exact ⟨_, ⟨e1, e2, e3, e4, v, hs _ hv, rfl⟩, q_st1_sub hs _ _⟩
  | ifCond cn off => obtain ⟨e1, rfl, e⟩ := h; exact ⟨b, ⟨e1, rfl, e⟩, hs⟩
  | if_icmp cn off => obtain ⟨e1, rfl, e⟩ := h; exact ⟨b, ⟨e1, rfl, e⟩, hs⟩
  | if_acmp cn off => obtain ⟨e1, rfl, e⟩ := h; exact ⟨b, ⟨e1, rfl, e⟩, hs⟩
  | ifnull off => obtain ⟨e1, rfl, e⟩ := h; exact ⟨b, ⟨e1, rfl, e⟩, hs⟩
  | ifnonnull off => obtain ⟨e1, rfl, e⟩ := h; exact ⟨b, ⟨e1, rfl, e⟩, hs⟩
  | goto off => obtain ⟨e1, rfl, e⟩ := h; exact ⟨b, ⟨e1, rfl, e⟩, hs⟩
  | tableswitch d lo hi offs => obtain ⟨rfl, e⟩ := h; exact ⟨b, ⟨rfl, e⟩, hs⟩
  | _ => first | exact False.elim h | (obtain ⟨e1, e2, rfl, e⟩ := h; exact ⟨b, ⟨e1, e2, rfl, e⟩, hs⟩)
theorem q_hp_sub {M : q_M} {pc : Nat} {ins : ClassFile.Instr} {len : Nat} {a b : List (Nat × Value)} {st : List Value} {x : q_S} {pc' : Nat} {a' : List (Nat × Value)} {st' : List Value} {x' : q_S} (h : q_hp M pc ins len a st x pc' a' st' x') (hs : ∀ q ∈ a, q ∈ b) : q_hp M pc ins len b st x pc' b st' x' ∧ ∀ q ∈ a', q ∈ b := by
  have hl := q_hp_ls h
  subst hl
  refine ⟨?_, hs⟩
  cases ins with
  | putfield idx => obtain ⟨e1, e2, -, e⟩ := h; exact ⟨e1, e2, rfl, e⟩
  | iastore => obtain ⟨e1, e2, -, e⟩ := h; exact ⟨e1, e2, rfl, e⟩
  | bastore => obtain ⟨e1, e2, -, e⟩ := h; exact ⟨e1, e2, rfl, e⟩
  | aastore => obtain ⟨e1, e2, -, e⟩ := h; exact ⟨e1, e2, rfl, e⟩
  | new idx => obtain ⟨e1, e2, -, e⟩ := h; exact ⟨e1, e2, rfl, e⟩
  | newarray ty => obtain ⟨e1, e2, -, e⟩ := h; exact ⟨e1, e2, rfl, e⟩
  | anewarray idx => obtain ⟨e1, e2, -, e⟩ := h; exact ⟨e1, e2, rfl, e⟩
  | invokestatic idx => obtain ⟨e1, e2, -, e⟩ := h; exact ⟨e1, e2, rfl, e⟩
  | _ => exact False.elim h
theorem q_run_sub {C : q_M → List Value → q_S → q_S → Option Value → Prop} {F : q_S → Option Value → Prop} {M : q_M} : ∀ (n pc : Nat) (a b : List (Nat × Value)) (st : List Value) (x : q_S), q_run C F M n pc a st x → (∀ q ∈ a, q ∈ b) → q_run C F M n pc b st x := by
  intro n
  induction n with
  | zero => intro pc a b st x h; exact False.elim h
  | succ n ih =>
    intro pc a b st x h hs
    obtain ⟨ins, len, hd, h⟩ := h
    refine ⟨ins, len, hd, ?_⟩
    rcases h with ⟨pc', ls', st', hh, h⟩ | ⟨pc', ls', st', x', hh, h⟩ | ⟨M', av, rest, x1, r, hh, hc, h⟩ | ⟨r, hh, hf⟩
    · obtain ⟨b', g1, g2⟩ := q_smp_sub hh hs
      exact Or.inl ⟨pc', b', st', g1, ih _ _ _ _ _ h g2⟩
    · obtain ⟨g1, g2⟩ := q_hp_sub hh hs
      exact Or.inr (Or.inl ⟨pc', b, st', x', g1, ih _ _ _ _ _ h g2⟩)
    · exact Or.inr (Or.inr (Or.inl ⟨M', av, rest, x1, r, hh, hc, ih _ _ _ _ _ h hs⟩))
    · exact Or.inr (Or.inr (Or.inr ⟨r, hh, hf⟩))
theorem q_sub {C : q_M → List Value → q_S → q_S → Option Value → Prop} {F : q_S → Option Value → Prop} {M : q_M} {pc : Nat} {a b : List (Nat × Value)} {st : List Value} {x : q_S} (ps : List Nat) (hp : ps.filterMap (fun i => b[i]?) = a) (k : q_X C F M pc a st x) : q_X C F M pc b st x := by
  obtain ⟨n, k⟩ := k
  refine ⟨n, q_run_sub _ _ _ _ _ _ k (fun q hq => ?_)⟩
  rw [← hp] at hq
  obtain ⟨i, -, hi⟩ := List.mem_filterMap.mp hq
  exact List.mem_of_getElem? hi
theorem q_run_C {C C' : q_M → List Value → q_S → q_S → Option Value → Prop} {F : q_S → Option Value → Prop} {M : q_M} (hC : ∀ M' av x x1 r, C M' av x x1 r → C' M' av x x1 r) : ∀ (n pc : Nat) (a : List (Nat × Value)) (st : List Value) (x : q_S), q_run C F M n pc a st x → q_run C' F M n pc a st x := by
  intro n
  induction n with
  | zero => intro pc a st x h; exact False.elim h
  | succ n ih =>
    intro pc a st x h
    obtain ⟨ins, len, hd, h⟩ := h
    refine ⟨ins, len, hd, ?_⟩
    rcases h with ⟨pc', ls', st', hh, h⟩ | ⟨pc', ls', st', x', hh, h⟩ | ⟨M', av, rest, x1, r, hh, hc, h⟩ | ⟨r, hh, hf⟩
    · exact Or.inl ⟨pc', ls', st', hh, ih _ _ _ _ h⟩
    · exact Or.inr (Or.inl ⟨pc', ls', st', x', hh, ih _ _ _ _ h⟩)
    · exact Or.inr (Or.inr (Or.inl ⟨M', av, rest, x1, r, hh, hC _ _ _ _ _ hc, ih _ _ _ _ h⟩))
    · exact Or.inr (Or.inr (Or.inr ⟨r, hh, hf⟩))
theorem q_call_s : ∀ (d : Nat) (M : q_M) (av : List Value) (x x1 : q_S) (r : Option Value), q_call d M av x x1 r → q_call (d + 1) M av x x1 r := by
  intro d
  induction d with
  | zero => intro M av x x1 r h; exact False.elim h
  | succ d ih =>
    intro M av x x1 r h
    obtain ⟨h1, h2, h3, n, h⟩ := h
    exact ⟨h1, h2, h3, n, q_run_C ih _ _ _ _ _ h⟩
theorem q_call_le {d d' : Nat} (h : d ≤ d') {M : q_M} {av : List Value} {x x1 : q_S} {r : Option Value} (hc : q_call d M av x x1 r) : q_call d' M av x x1 r := by
  obtain ⟨k, rfl⟩ := Nat.le.dest h
  induction k with
  | zero => exact hc
  | succ k ih => exact q_call_s _ _ _ _ _ _ (ih (Nat.le_add_right _ _))
theorem q_sw_out {v : Int32} (h0 : ¬ v = 0) (h1 : ¬ v = 1) (h2 : ¬ v = 2) (h3 : ¬ v = 3) (h4 : ¬ v = 4) (h5 : ¬ v = 5) (h6 : ¬ v = 6) (h7 : ¬ v = 7) (h8 : ¬ v = 8) (h9 : ¬ v = 9) (h10 : ¬ v = 10) (h11 : ¬ v = 11) (h12 : ¬ v = 12) (h13 : ¬ v = 13) (h14 : ¬ v = 14) (h15 : ¬ v = 15) (h16 : ¬ v = 16) (h17 : ¬ v = 17) (h18 : ¬ v = 18) : v.toInt < 0 ∨ 18 < v.toInt := by
  have key : ∀ k : Int32, ¬ v = k → v.toInt ≠ k.toInt := fun k h e => h (Int32.toInt_inj.mp e)
  have g0 : v.toInt ≠ 0 := key 0 h0
  have g1 : v.toInt ≠ 1 := key 1 h1
  have g2 : v.toInt ≠ 2 := key 2 h2
  have g3 : v.toInt ≠ 3 := key 3 h3
  have g4 : v.toInt ≠ 4 := key 4 h4
  have g5 : v.toInt ≠ 5 := key 5 h5
  have g6 : v.toInt ≠ 6 := key 6 h6
  have g7 : v.toInt ≠ 7 := key 7 h7
  have g8 : v.toInt ≠ 8 := key 8 h8
  have g9 : v.toInt ≠ 9 := key 9 h9
  have g10 : v.toInt ≠ 10 := key 10 h10
  have g11 : v.toInt ≠ 11 := key 11 h11
  have g12 : v.toInt ≠ 12 := key 12 h12
  have g13 : v.toInt ≠ 13 := key 13 h13
  have g14 : v.toInt ≠ 14 := key 14 h14
  have g15 : v.toInt ≠ 15 := key 15 h15
  have g16 : v.toInt ≠ 16 := key 16 h16
  have g17 : v.toInt ≠ 17 := key 17 h17
  have g18 : v.toInt ≠ 18 := key 18 h18
  omega
