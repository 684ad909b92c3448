/-! The first call on a new object. -/
def fS (x : q_S) (A : Nat → Nat) (cap : Int32) : Prop := cS x A 0 cap 0 kn0 (fun _ => 0) ∧ jL x (cL0 A) ∧ wf x
def pO {α : Type} (x : q_S) (o : Option (q_S × α)) (t : Option (tT × α)) : Prop := ∃ y T' r, o = some (y, r) ∧ t = some (T', r) ∧ cFr x y ∧ q_sz y ≤ q_sz x + 100 ∧ q_sl y ≤ q_sl x + 10000
theorem pO_rd {α : Type} {x : q_S} {T' : tT} {r : α} {o : Option (q_S × α)} {t : Option (tT × α)} (h1 : o = some (x, r)) (h2 : t = some (T', r)) : pO x o t := ⟨x, T', r, h1, h2, cFr.rf x, by omega, by omega⟩
theorem blw_z (a : Int32) : blw a (nI 0) = 0 := Classical.byContradiction (fun h => by obtain ⟨i, h1, -⟩ := blw_n (by decide) h; omega)
theorem tin_z (a : Int32) : tin a 0 (0 - 1) = 0 := (tin_blw (b := nI 0) (by decide)).trans (blw_z a)
theorem T0_f (cap : Int32) {k : Nat} (h : k ≠ 0) : tf (T0 cap) k = 0 := if_neg h
theorem T0_a (cap : Int32) (t : Nat) : (T0 cap).2 t = fun _ => 0 := rfl
section FR
variable {x : q_S} {A : Nat → Nat} {cap : Int32}
theorem fS_l (h : fS x A cap) {a : Nat} (ha : a = A 2 ∨ a = A 7 ∨ a = A 9 ∨ a = A 10 ∨ a = A 11) : cL0 A a = some [] ∧ lI x a [] := by
  have e : cL0 A a = some [] := if_pos ha
  exact ⟨e, (h.2.1.1 a [] e).1⟩
theorem f_events (h : fS x A cap) : pO x (jf_Bc_events x (A 0)) (jt_Mo_events (T0 cap)) := by
  obtain ⟨⟨⟨b1, b2, b3, b4, b5, b6, b7⟩, ⟨c1, c2, c3⟩, ⟨j1, j2, j3⟩, -⟩, hJ, hw⟩ := h
  refine pO_rd (r := 0) ?_ rfl
  unfold jf_Bc_events
  rw [y_gRs b1 b4, Option.bind_some, y_av j1, Option.bind_some]
  unfold jf_Jo_size
  rw [y_gI j1 j3]; rfl
theorem f_event (h : fS x A cap) (a : Int32) : pO x (jf_Bc_event x (A 0) a) (jt_Mo_event (T0 cap) a) := by
  obtain ⟨⟨⟨b1, b2, b3, b4, b5, b6, b7⟩, ⟨c1, c2, c3⟩, ⟨j1, j2, j3⟩, -⟩, hJ, hw⟩ := h
  have hna : blw a 32 ≠ 0 → ¬ a < 0 := fun z => (blw_1 z).1
  refine pO_rd (r := -1) (T' := T0 cap) ?_ ?_
  · unfold jf_Bc_event
    rw [y_gRs b1 b4, Option.bind_some, y_av j1, Option.bind_some]
    unfold jf_Jo_before
    rw [isBelow_eq, Option.bind_some]
    dsimp only
    by_cases hc : blw a 32 = 0
    · rw [if_pos hc]; rfl
    · rw [if_neg hc, y_gI j1 j3, Option.bind_some, if_neg (hna hc)]; rfl
  · unfold jt_Mo_event
    rw [in_eq, Option.bind_some, tin_blw (b := 32) (by decide)]
    dsimp only
    by_cases hc : blw a 32 = 0
    · rw [if_pos hc]
    · rw [if_neg hc, T0_f cap (by decide), if_neg (hna hc)]
theorem f_live (h : fS x A cap) (a : Int32) : jf_Wo_liveBean x (A 4) a = some (x, none) := by
  have l := (fS_l h (Or.inr (Or.inr (Or.inl rfl)))).2
  obtain ⟨⟨-, -, -, ⟨w1, w2, w3, w4⟩, -⟩, hJ, hw⟩ := h
  unfold jf_Wo_liveBean
  rw [y_gRs w1 w4, Option.bind_some, y_av l.1, Option.bind_some, L_size l, Option.bind_some]
  dsimp only
  rw [isBelow_eq, Option.bind_some]
  dsimp only
  rw [show blw a (nI ([] : List Nat).length) = 0 from blw_z a, if_pos rfl]
theorem f_mock (h : fS x A cap) (a : Int32) : jf_Wo_liveMock x (A 4) a = some (x, none) := by
  unfold jf_Wo_liveMock
  rw [y_av h.1.2.2.2.1.1, Option.bind_some, f_live h, Option.bind_some]
  rfl
theorem t_live (a : Int32) : jt_Mo_live (T0 cap) a = some (T0 cap, 0) := by
  unfold jt_Mo_live
  rw [in_eq, Option.bind_some, T0_f cap (by decide), tin_z]
  rfl
theorem f_definition (h : fS x A cap) (a : Int32) : pO x (jf_Bc_definition x (A 0) a) (jt_Mo_definition (T0 cap) a) := by
  refine pO_rd (r := -1) (T' := T0 cap) ?_ ?_
  · unfold jf_Bc_definition
    rw [y_gRs h.1.1.1 h.1.1.2.2.2.2.1, Option.bind_some, y_av h.1.2.2.2.1.1, Option.bind_some, f_live h, Option.bind_some]; rfl
  · unfold jt_Mo_definition
    rw [t_live]; rfl
theorem f_wired (h : fS x A cap) (a b : Int32) : pO x (jf_Bc_wired x (A 0) a b) (jt_Mo_wired (T0 cap) a b) := by
  refine pO_rd (r := -1) (T' := T0 cap) ?_ ?_
  · unfold jf_Bc_wired
    rw [y_gRs h.1.1.1 h.1.1.2.2.2.2.1, Option.bind_some, y_av h.1.2.2.2.1.1, Option.bind_some, f_live h, Option.bind_some]; rfl
  · unfold jt_Mo_wired
    rw [t_live]; rfl
theorem f_stub (h : fS x A cap) (a b : Int32) : pO x (jf_Bc_stub x (A 0) a b) (jt_Mo_stub (T0 cap) a b) := by
  refine pO_rd (r := 0) (T' := T0 cap) ?_ ?_
  · unfold jf_Bc_stub
    rw [y_gRs h.1.1.1 h.1.1.2.2.2.2.1, Option.bind_some, y_av h.1.2.2.2.1.1, Option.bind_some, f_mock h, Option.bind_some]; rfl
  · unfold jt_Mo_stub
    rw [t_live]; rfl
theorem f_recorded (h : fS x A cap) (a b : Int32) : pO x (jf_Bc_recorded x (A 0) a b) (jt_Mo_recorded (T0 cap) a b) := by
  refine pO_rd (r := 4294967296) (T' := T0 cap) ?_ ?_
  · unfold jf_Bc_recorded
    rw [y_gRs h.1.1.1 h.1.1.2.2.2.2.1, Option.bind_some, y_av h.1.2.2.2.1.1, Option.bind_some, f_mock h, Option.bind_some]; rfl
  · unfold jt_Mo_recorded
    rw [t_live]; rfl
theorem f_call (h : fS x A cap) (a b : Int32) : pO x (jf_Bc_call x (A 0) a b) (jt_Mo_call (T0 cap) a b) := by
  refine pO_rd (r := 4294967296) (T' := T0 cap) ?_ ?_
  · unfold jf_Bc_call
    rw [y_gRs h.1.1.1 h.1.1.2.2.2.2.1, Option.bind_some, y_av h.1.2.2.2.1.1, Option.bind_some, f_live h, Option.bind_some]; rfl
  · unfold jt_Mo_call
    rw [t_live]; rfl
theorem f_cached (h : fS x A cap) (a : Int32) : pO x (jf_Bc_cached x (A 0) a) (jt_Mo_cached (T0 cap) a) := by
  have l := (fS_l h (Or.inr (Or.inr (Or.inr (Or.inr rfl))))).2
  obtain ⟨⟨⟨b1, b2, b3, b4, b5, b6, b7⟩, -, -, -, ⟨s1, s2, s3, s4, s5, s6⟩, -⟩, hJ, hw⟩ := h
  refine pO_rd (r := -1) (T' := T0 cap) ?_ ?_
  · unfold jf_Bc_cached
    rw [y_gRs b1 b6, Option.bind_some, y_av s1, Option.bind_some]
    unfold jf_Sh_numberAt
    rw [y_gRs s1 s6, Option.bind_some, y_av l.1, Option.bind_some, L_size l, Option.bind_some]
    dsimp only
    rw [isBelow_eq, Option.bind_some]
    dsimp only
    rw [show blw a (nI ([] : List Nat).length) = 0 from blw_z a, if_pos rfl]; rfl
  · unfold jt_Mo_cached
    by_cases hc : 0 ≤ a
    · rw [if_pos hc]
      show jt_Mo_cached_B8 _ _ _ _ = _
      unfold jt_Mo_cached_B8
      rw [T0_f cap (by decide), if_pos (by decide)]
    · rw [if_neg hc]
theorem f_isConf (h : fS x A cap) (a : Int32) : jf_Bc_isConfiguration x (A 0) a = some (x, 0) := by
  have l := (fS_l h (Or.inl rfl)).2
  obtain ⟨⟨⟨b1, b2, b3, -⟩, -⟩, -⟩ := h
  unfold jf_Bc_isConfiguration
  rw [y_gRs b1 b3, Option.bind_some, y_av l.1, Option.bind_some, L_size l, Option.bind_some]
  dsimp only
  rw [isBelow_eq, Option.bind_some]
  dsimp only
  rw [show blw a (nI ([] : List Nat).length) = 0 from blw_z a, if_pos (by decide)]
theorem t_isConf (a : Int32) : jt_Mo_isConfiguration (T0 cap) a = some (T0 cap, 0) := by
  unfold jt_Mo_isConfiguration
  rw [in_eq, Option.bind_some, T0_f cap (by decide), tin_z]
  show (if (0 : Int32) &&& 1 = 0 then _ else _) = _
  rw [if_pos (by decide)]
theorem f_ctx (h : fS x A cap) (a : Int32) : jf_Bc_contextOf x (A 0) a = some (x, none) := by
  unfold jf_Bc_contextOf
  rw [y_av h.1.1.1, Option.bind_some, f_isConf h, Option.bind_some]; rfl
theorem t_cachedFor (a : Int32) : jt_Mo_cachedFor (T0 cap) a = some (T0 cap, -1) := by
  unfold jt_Mo_cachedFor
  rw [t_isConf]; rfl
theorem f_key (h : fS x A cap) (a : Int32) : pO x (jf_Bc_key x (A 0) a) (jt_Mo_key (T0 cap) a) := by
  refine pO_rd (r := -1) (T' := T0 cap) ?_ ?_
  · unfold jf_Bc_key
    rw [y_av h.1.1.1, Option.bind_some, f_isConf h, Option.bind_some]; rfl
  · unfold jt_Mo_key
    rw [t_isConf]; rfl
theorem f_failures (h : fS x A cap) (a : Int32) : pO x (jf_Bc_failures x (A 0) a) (jt_Mo_failures (T0 cap) a) := by
  refine pO_rd (r := -1) (T' := T0 cap) ?_ ?_
  · unfold jf_Bc_failures
    rw [y_av h.1.1.1, Option.bind_some, f_isConf h, Option.bind_some]; rfl
  · unfold jt_Mo_failures
    rw [t_isConf]; rfl
theorem f_request (h : fS x A cap) (a : Int32) : pO x (jf_Bc_request x (A 0) a) (jt_Mo_request (T0 cap) a) := by
  refine pO_rd (r := -1) (T' := T0 cap) ?_ ?_
  · unfold jf_Bc_request
    rw [y_gI h.1.1.1 h.1.1.2.2.2.2.2.2, Option.bind_some, if_pos rfl, y_av h.1.1.1, Option.bind_some, f_isConf h, Option.bind_some]; rfl
  · unfold jt_Mo_request
    rw [T0_f cap (by decide), if_pos rfl, t_isConf]; rfl
theorem f_dirty (h : fS x A cap) (a : Int32) : pO x (jf_Bc_dirty x (A 0) a) (jt_Mo_dirty (T0 cap) a) := by
  refine pO_rd (r := -1) (T' := T0 cap) ?_ ?_
  · unfold jf_Bc_dirty
    rw [y_av h.1.1.1, Option.bind_some, f_isConf h, Option.bind_some]; rfl
  · unfold jt_Mo_dirty
    rw [t_isConf]; rfl
theorem f_reset (h : fS x A cap) (a : Int32) : pO x (jf_Bc_reset x (A 0) a) (jt_Mo_reset (T0 cap) a) := by
  refine pO_rd (r := -1) (T' := T0 cap) ?_ ?_
  · unfold jf_Bc_reset
    rw [y_av h.1.1.1, Option.bind_some, f_ctx h, Option.bind_some]; rfl
  · unfold jt_Mo_reset
    rw [t_cachedFor]; rfl
theorem f_get (h : fS x A cap) (a b c d : Int32) : pO x (jf_Bc_get x (A 0) a b c d) (jt_Mo_get (T0 cap) a b c d) := by
  refine pO_rd (r := -1) (T' := T0 cap) ?_ ?_
  · unfold jf_Bc_get
    rw [isType_eq, Option.bind_some]
    dsimp only
    split
    · rfl
    · rw [isQualifier_eq, Option.bind_some]
      dsimp only
      split
      · rfl
      · rw [isName_eq, Option.bind_some]
        dsimp only
        split
        · rfl
        · rw [y_av h.1.1.1, Option.bind_some, f_ctx h, Option.bind_some]; rfl
  · unfold jt_Mo_get
    rw [t_cachedFor]; rfl
theorem f_need (h : fS x A cap) (a b c d : Int32) : pO x (jf_Bc_need x (A 0) a b c d) (jt_Mo_need (T0 cap) a b c d) := by
  have l := (fS_l h (Or.inl rfl)).2
  have l7 := (fS_l h (Or.inr (Or.inl rfl))).2
  obtain ⟨⟨⟨b1, b2, b3, -⟩, ⟨c1, c2, c3⟩, -⟩, -⟩ := h
  refine pO_rd (r := 0) (T' := T0 cap) ?_ ?_
  · unfold jf_Bc_need
    rw [y_gRs b1 b3, Option.bind_some, y_av l.1, Option.bind_some, L_isEmpty l (by decide), Option.bind_some]
    dsimp only
    rw [if_neg (c := (if ([] : List Nat).length = 0 then (1 : Int32) else 0) = 0) (by decide), y_gRs b1 b2, Option.bind_some, y_av c1, Option.bind_some]
    unfold jf_Ca_size
    rw [y_gRs c1 c3, Option.bind_some, y_av l7.1, Option.bind_some, L_size l7, Option.bind_some, Option.bind_some]
    dsimp only
    rw [isBelow_eq, Option.bind_some]
    dsimp only
    rw [show blw a (nI ([] : List Nat).length) = 0 from blw_z a, if_pos rfl]
  · unfold jt_Mo_need
    rw [in_eq, Option.bind_some, T0_f cap (by decide), tin_z]; rfl
theorem f_shutdown (h : fS x A cap) : pO x (jf_Bc_shutdown x (A 0)) (jt_Mo_shutdown (T0 cap)) := by
  have l := (fS_l h (Or.inr (Or.inr (Or.inr (Or.inl rfl))))).2
  obtain ⟨⟨⟨b1, b2, b3, b4, b5, b6, b7⟩, -, -, -, ⟨s1, s2, s3, s4, s5, s6⟩, -⟩, hJ, hw⟩ := h
  unfold jf_Bc_shutdown
  refine st_pZ (G := fun o => pO x o (jt_Mo_shutdown (T0 cap))) b1 (Or.inr rfl) (fun y u => ?_)
  have hf := cFr_uF u (by decide)
  have l' : lI y (A 10) [] := by
    refine l.fr ?_ (fun j => ?_) (fun e _ => by rw [u.2.2.2.2.1]) u.2.2.2.2.2.1
    · rw [u.2.2.1]; exact l.1
    · rw [u.2.2.2.2.2.2, if_neg (fun z => by cases z.1)]
  have d6 : q_fd y 0 4 (A 0) = .ref (A 5) := by rw [u.2.2.2.2.2.2, if_neg (fun z => by cases z.2.1)]; exact b6
  have e5 : q_fd y 5 3 (A 5) = .ref (A 10) := by rw [u.2.2.2.2.2.2, if_neg (fun z => by cases z.1)]; exact s5
  have a0 : q_al y 0 (A 0) = true := by rw [u.2.2.1]; exact b1
  have a5 : q_al y 5 (A 5) = true := by rw [u.2.2.1]; exact s1
  refine ⟨y, tp (T0 cap) 22 1, 0, ?_, ?_, hf, by rw [u.1]; exact Nat.le_add_right _ _, by rw [u.2.1]; exact Nat.le_add_right _ _⟩
  · rw [y_gRs a0 d6, Option.bind_some, y_av a5, Option.bind_some]
    unfold jf_Sh_closeAll
    rw [y_gRs a5 e5, Option.bind_some, y_av l'.1, Option.bind_some, L_size l', Option.bind_some]
    dsimp only
    rw [show jf_Sh_closeAll_L12 lpK y (A 5) 0 (nI ([] : List Nat).length - 1) = jf_Sh_closeAll_B12 (jf_Sh_closeAll_L12 999) y (A 5) 0 (nI ([] : List Nat).length - 1) from rfl]
    unfold jf_Sh_closeAll_B12
    rw [if_pos (by decide)]; rfl
  · unfold jt_Mo_shutdown tpz
    rw [if_pos (Or.inr rfl), Option.bind_some]
    rw [show tf (tp (T0 cap) 22 1) 16 = 0 from rfl]
    rw [show jt_Mo_shutdown_L14 lpK (tp (T0 cap) 22 1) 0 (0 - 1) = jt_Mo_shutdown_B14 (jt_Mo_shutdown_L14 999) (tp (T0 cap) 22 1) 0 (0 - 1) from rfl]
    unfold jt_Mo_shutdown_B14
    rw [if_pos (by decide)]
theorem f_extend (h : fS x A cap) (a b : Int32) : pO x (jf_Bc_extend x (A 0) a b) (jt_Mo_extend (T0 cap) a b) := by
  have l := (fS_l h (Or.inl rfl)).2
  obtain ⟨⟨⟨b1, b2, b3, -⟩, ⟨c1, c2, c3⟩, -, -, -, k1, -⟩, -⟩ := h
  unfold jf_Bc_extend jt_Mo_extend
  rw [y_gRs b1 b3, Option.bind_some, y_av l.1, Option.bind_some, L_isEmpty l (by decide), Option.bind_some, in_eq, Option.bind_some, tin_blw (b := 6) (by decide)]
  dsimp only
  rw [if_neg (c := (if ([] : List Nat).length = 0 then (1 : Int32) else 0) = 0) (by decide), isType_eq, Option.bind_some]
  dsimp only
  by_cases h1 : blw a 6 = 0
  · rw [if_pos h1, if_pos h1]; exact pO_rd rfl rfl
  · rw [if_neg h1, if_neg h1, isType_eq, Option.bind_some, in_eq, Option.bind_some, tin_blw (b := 6) (by decide)]
    dsimp only
    by_cases h2 : blw b 6 = 0
    · rw [if_pos h2, if_pos h2]; exact pO_rd rfl rfl
    · rw [if_neg h2, if_neg h2]
      obtain ⟨i, hi, rfl⟩ := blw_n (n := 6) (by decide) h1
      obtain ⟨j, hj, rfl⟩ := blw_n (n := 6) (by decide) h2
      rw [y_gRs b1 b2, Option.bind_some, y_av c1, Option.bind_some, isKind_eq c1 c2 k1 hj, Option.bind_some, is_eq hi hj, Option.bind_some]
      dsimp only
      rw [T0_a]
      have r1 := Rk_0 j i hj hi
      have r2 := Rk_0 i j hi hj
      by_cases e1 : isE (fun _ => 0) i j
      · rw [if_neg (c := (if isE (fun _ => 0) i j then (1 : Int32) else 0) = 0) (by rw [if_pos e1]; decide)]
        by_cases e2 : hs (kn0 j) i
        · rw [if_neg (c := (if hs (kn0 j) i then (1 : Int32) else 0) = 0) (by rw [if_pos e2]; decide)]
          exact pO_rd rfl rfl
        · rw [if_pos (c := (if hs (kn0 j) i then (1 : Int32) else 0) = 0) (by rw [if_neg e2]), y_gRs b1 b2, Option.bind_some, y_av c1, Option.bind_some, isKind_eq c1 c2 k1 hi, Option.bind_some]
          dsimp only
          rw [if_neg (c := (if hs (kn0 i) j then (1 : Int32) else 0) = 0) (by rw [if_pos (r2.mpr e1)]; decide)]
          exact pO_rd rfl rfl
      · rw [if_pos (c := (if isE (fun _ => 0) i j then (1 : Int32) else 0) = 0) (by rw [if_neg e1]), is_eq hj hi, Option.bind_some]
        dsimp only
        rw [T0_a]
        by_cases e2 : hs (kn0 j) i
        · rw [if_neg (c := (if hs (kn0 j) i then (1 : Int32) else 0) = 0) (by rw [if_pos e2]; decide), if_neg (c := (if isE (fun _ => 0) j i then (1 : Int32) else 0) = 0) (by rw [if_pos (r1.mp e2)]; decide)]
          exact pO_rd rfl rfl
        · have e3 : ¬ isE (fun _ => 0) j i := fun z => e2 (r1.mpr z)
          rw [if_pos (c := (if hs (kn0 j) i then (1 : Int32) else 0) = 0) (by rw [if_neg e2]), if_pos (c := (if isE (fun _ => 0) j i then (1 : Int32) else 0) = 0) (by rw [if_neg e3]), y_gRs b1 b2, Option.bind_some, y_av c1, Option.bind_some, isKind_eq c1 c2 k1 hi, Option.bind_some]
          dsimp only
          rw [if_pos (c := (if hs (kn0 i) j then (1 : Int32) else 0) = 0) (by rw [if_neg (fun z => e1 (r2.mp z))]), y_gRs b1 b2, Option.bind_some, y_av c1, Option.bind_some, T0_f cap (by decide), if_pos (by decide)]
          obtain ⟨y, q1, q2⟩ := addKind_L (a := i) hj lpK 6 0 x kn0 rfl (by decide) c1 c2 k1
          unfold jf_Ca_addKind
          rw [show jf_Ca_addKind_L2 lpK x (A 1) (nI i) (nI j) 0 = some (y, ()) from q1, Option.bind_some]
          have q3 := ext_47 hi hj e3 (T0 cap) lpK 6 0 rfl (by decide)
          rw [show tset (T0 cap) 100 (exF (fun _ => 0) i j (6 * 0)) = T0 cap from (congrArg (tset (T0 cap) 100) (by funext n; unfold exF; rw [if_neg (Nat.not_lt_zero n)]; rfl)).trans (tset_s (T0 cap) 100)] at q3
          exact ⟨y, _, 1, rfl, q3, cFr_uI q2 (by decide), by rw [q2.1]; exact Nat.le_add_right _ _, by rw [q2.2.1]; exact Nat.le_add_right _ _⟩
theorem f_size (h : fS x A cap) : jf_Ca_size x (A 1) = some (x, nI 0) := by
  have l7 := (fS_l h (Or.inr (Or.inl rfl))).2
  obtain ⟨⟨-, ⟨c1, c2, c3⟩, -⟩, -⟩ := h
  unfold jf_Ca_size
  rw [y_gRs c1 c3, Option.bind_some, y_av l7.1, Option.bind_some, L_size l7]; rfl
theorem t_define (a b c d : Int32) : ∃ T', ((tw (T0 cap) 10 10 (tf (T0 cap) 2) a).bind fun T13 => (tw T13 11 10 (tf T13 2) b).bind fun T16 => (tw T16 12 10 (tf T16 2) c).bind fun T19 => (tw T19 13 10 (tf T19 2) d).bind fun T22 => (tpi T22 2 ((tf T22 2) + 1)).bind fun T25 => some (T25, (tf T25 2) - 1)) = some (T', 0) := by
  have e : tf (T0 cap) 2 = nI 0 := rfl
  simp only [e, tw_n (t := 10) (i := 0) (n := 10) (by decide) (by decide), tw_n (t := 11) (i := 0) (n := 10) (by decide) (by decide), tw_n (t := 12) (i := 0) (n := 10) (by decide) (by decide), tw_n (t := 13) (i := 0) (n := 10) (by decide) (by decide), Option.bind_some, tset_f, tpi]
  refine ⟨_, congrArg some (Prod.ext rfl ?_)⟩
  show nI 0 + 1 - 1 = 0
  decide
theorem f_define (h : fS x A cap) (a b c d : Int32) : pO x (jf_Bc_define x (A 0) a b c d) (jt_Mo_define (T0 cap) a b c d) := by
  have l := (fS_l h (Or.inl rfl)).2
  have l7 := fS_l h (Or.inr (Or.inl rfl))
  have hsz := f_size h
  obtain ⟨⟨⟨b1, b2, b3, -⟩, ⟨c1, c2, c3⟩, -⟩, hJ, hw⟩ := h
  unfold jf_Bc_define jt_Mo_define
  rw [y_gRs b1 b3, Option.bind_some, y_av l.1, Option.bind_some, L_isEmpty l (by decide), Option.bind_some, in_eq, Option.bind_some, tin_blw (b := 6) (by decide)]
  dsimp only
  rw [if_neg (c := (if ([] : List Nat).length = 0 then (1 : Int32) else 0) = 0) (by decide), y_gRs b1 b2, Option.bind_some, y_av c1, Option.bind_some, hsz, Option.bind_some]
  dsimp only
  rw [if_pos (c := nI 0 < 10) (by decide), isType_eq, Option.bind_some]
  dsimp only
  by_cases h1 : blw a 6 = 0
  · rw [if_pos h1, if_pos h1]; exact pO_rd rfl rfl
  · rw [if_neg h1, if_neg h1, isBelow_eq, Option.bind_some, in_eq, Option.bind_some, tin_blw (b := 16) (by decide)]
    dsimp only
    by_cases h2 : blw b 16 = 0
    · rw [if_pos h2, if_pos h2]; exact pO_rd rfl rfl
    · rw [if_neg h2, if_neg h2, isQualifier_eq, Option.bind_some, in_eq, Option.bind_some, tin_blw (b := 4) (by decide)]
      dsimp only
      by_cases h3 : blw c 4 = 0
      · rw [if_pos h3, if_pos h3]; exact pO_rd rfl rfl
      · rw [if_neg h3, if_neg h3, isProfile_eq, Option.bind_some, in_eq, Option.bind_some, tin_blw (b := 4) (by decide)]
        dsimp only
        by_cases h4 : blw d 4 = 0
        · rw [if_pos h4, if_pos h4]; exact pO_rd rfl rfl
        · rw [if_neg h4, if_neg h4, if_neg (c := tf (T0 cap) 2 = 10) (by rw [T0_f cap (by decide)]; decide), if_pos (c := tf (T0 cap) 11 ≤ 0) (by rw [T0_f cap (by decide)]; decide), y_gRs b1 b2, Option.bind_some]
          obtain ⟨T', ht⟩ := t_define (cap := cap) a b c d
          rw [ht]
          refine st_nO (G := fun o => pO x o (some (T', 0))) (fun x1 u => ?_)
          have w1 := wf_uN hw u
          have J1 := jL_uN hJ u (by decide)
          have a6 : q_al x1 6 (q_sz x) = true := by rw [u.2.2.2.2.2.1, if_pos ⟨rfl, rfl⟩]
          simp only [jf_De_init, Option.bind_assoc, Option.bind_some]
          refine st_newL (G := fun o => pO x o (some (T', 0))) J1 w1 (fun x2 J2 v => ?_)
          obtain ⟨e, he⟩ : ∃ e, e = q_sz x := ⟨_, rfl⟩
          rw [← he] at a6 ⊢
          have w2 := v.2.2.2.2.2.2.2.2
          have a62 : q_al x2 6 e = true := nL_al v a6
          refine st_pR (G := fun o => pO x o (some (T', 0))) a62 (fun x3 v3 => ?_)
          have a63 : q_al x3 6 e = true := by rw [v3.2.2.1]; exact a62
          refine st_pI (G := fun o => pO x o (some (T', 0))) a63 (fun x4 v4 => ?_)
          have a64 : q_al x4 6 e = true := by rw [v4.2.2.1]; exact a63
          refine st_pI (G := fun o => pO x o (some (T', 0))) a64 (fun x5 v5 => ?_)
          have a65 : q_al x5 6 e = true := by rw [v5.2.2.1]; exact a64
          refine st_pI (G := fun o => pO x o (some (T', 0))) a65 (fun x6 v6 => ?_)
          have a66 : q_al x6 6 e = true := by rw [v6.2.2.1]; exact a65
          refine st_pI (G := fun o => pO x o (some (T', 0))) a66 (fun x7 v7 => ?_)
          have a67 : q_al x7 6 e = true := by rw [v7.2.2.1]; exact a66
          have J7 := jL_uF (jL_uF (jL_uF (jL_uF (jL_uF J2 v3 (by decide)) v4 (by decide)) v5 (by decide)) v6 (by decide)) v7 (by decide)
          have w7 := wf_uF (wf_uF (wf_uF (wf_uF (wf_uF w2 v3) v4) v5) v6) v7
          have f7 := (((((cFr_uN u (by decide)).tr (cFr_nL v)).tr (cFr_uF v3 (by decide))).tr (cFr_uF v4 (by decide))).tr (cFr_uF v5 (by decide))).tr ((cFr_uF v6 (by decide)).tr (cFr_uF v7 (by decide)))
          have k1 : q_al x7 1 (A 1) = true := by rw [v7.2.2.1, v6.2.2.1, v5.2.2.1, v4.2.2.1, v3.2.2.1]; exact nL_al v (uN_al u c1)
          have fd : ∀ j, q_fd x7 1 j (A 1) = q_fd x 1 j (A 1) := fun j => by
            rw [v7.2.2.2.2.2.2, if_neg (fun z => by cases z.1), v6.2.2.2.2.2.2, if_neg (fun z => by cases z.1), v5.2.2.2.2.2.2, if_neg (fun z => by cases z.1), v4.2.2.2.2.2.2, if_neg (fun z => by cases z.1), v3.2.2.2.2.2.2, if_neg (fun z => by cases z.1), v.2.2.2.2.2.2.2.1 1 (by decide), u.2.2.2.2.2.2, if_neg (fun z => by cases z.1)]
          have s7 : q_sz x7 = q_sz x + 2 := by rw [v7.1, v6.1, v5.1, v4.1, v3.1, v.1, u.1]
          have m7 : q_sl x7 ≤ q_sl x + 8 := by
            rw [v7.2.1, v6.2.1, v5.2.1, v4.2.1, v3.2.1]
            have := v.2.2.1
            rw [u.2.1] at this
            exact this
          refine st_av (G := fun o => pO x o (some (T', 0))) k1 ?_
          unfold jf_Ca_add
          have c37 : q_fd x7 1 1 (A 1) = .ref (A 7) := by rw [fd]; exact c3
          have ne7 : A 7 ≠ q_sz x1 := fun z => by have := jL_lt hJ hw l7.1; rw [z, u.1] at this; omega
          have L7 : (fun b => if b = q_sz x1 then some [] else cL0 A b) (A 7) = some [] := by dsimp only; rw [if_neg ne7]; exact l7.1
          have i7 := (J7.1 _ _ L7).1
          obtain ⟨y, g1, g2, g3⟩ := L_add J7 L7 w7 (q_ok_c a67 (by decide)) (by decide)
          have gl := (g2.1 (A 7) [e] (if_pos rfl)).1
          have y1 : q_al y 1 (A 1) = true := by rw [g3.1]; exact k1
          have y3 : q_fd y 1 1 (A 1) = .ref (A 7) := by rw [g3.2.2.2.1 1 (by decide)]; exact c37
          rw [y_gRs k1 c37, Option.bind_some, y_av i7.1, Option.bind_some, g1, Option.bind_some]
          dsimp only
          rw [y_gRs y1 y3, Option.bind_some, y_av gl.1, Option.bind_some, L_size gl, Option.bind_some, Option.bind_some]
          dsimp only
          have h5 := g3.2.2.2.2.2.1
          have h6 := g3.2.2.2.2.2.2.2.1
          exact ⟨y, T', 0, congrArg some (Prod.ext rfl (show nI 1 - 1 = 0 by decide)), rfl, f7.tr (cFr_oL g3), by omega, by omega⟩
theorem f_ofProfile (h : fS x A cap) (a : Int32) : jf_Ca_ofProfile x (A 1) a = some (x, 0) := by
  have l7 := (fS_l h (Or.inr (Or.inl rfl))).2
  obtain ⟨⟨-, ⟨c1, c2, c3⟩, -⟩, -⟩ := h
  unfold jf_Ca_ofProfile
  rw [show jf_Ca_ofProfile_L4 lpK x (A 1) a 0 0 = jf_Ca_ofProfile_B4 (jf_Ca_ofProfile_L4 999) x (A 1) a 0 0 from rfl]
  unfold jf_Ca_ofProfile_B4
  rw [y_gRs c1 c3, Option.bind_some, y_av l7.1, Option.bind_some, L_size l7, Option.bind_some]
  exact if_pos (show nI 0 ≤ 0 by decide)
theorem f_flagged (h : fS x A cap) (a : Int32) : jf_Ca_flagged x (A 1) a = some (x, 0) := by
  have l7 := (fS_l h (Or.inr (Or.inl rfl))).2
  obtain ⟨⟨-, ⟨c1, c2, c3⟩, -⟩, -⟩ := h
  unfold jf_Ca_flagged
  rw [show jf_Ca_flagged_L4 lpK x (A 1) a 0 0 = jf_Ca_flagged_B4 (jf_Ca_flagged_L4 999) x (A 1) a 0 0 from rfl]
  unfold jf_Ca_flagged_B4
  rw [y_gRs c1 c3, Option.bind_some, y_av l7.1, Option.bind_some, L_size l7, Option.bind_some]
  exact if_pos (show nI 0 ≤ 0 by decide)
theorem t_configure (a b c d : Int32) : ∃ T', jt_Mo_configure_L74 lpK (T0 cap) a b c d 0 0 = some (T', 0) := by
  rw [show jt_Mo_configure_L74 lpK (T0 cap) a b c d 0 0 = jt_Mo_configure_B74 (jt_Mo_configure_L74 999) (T0 cap) a b c d 0 0 from rfl]
  unfold jt_Mo_configure_B74
  rw [if_pos (show tf (T0 cap) 2 ≤ 0 by rw [T0_f cap (by decide)]; decide)]
  have e : tf (T0 cap) 11 = nI 0 := rfl
  simp only [e, tw_n (t := 18) (i := 0) (n := 8) (by decide) (by decide), tw_n (t := 19) (i := 0) (n := 8) (by decide) (by decide), tw_n (t := 20) (i := 0) (n := 8) (by decide) (by decide), Option.bind_some, tset_f, tpi]
  refine ⟨_, congrArg some (Prod.ext rfl ?_)⟩
  show nI 0 + 1 - 1 = 0
  decide
theorem f_configure (h : fS x A cap) (a b c d : Int32) : pO x (jf_Bc_configure x (A 0) a b c d) (jt_Mo_configure (T0 cap) a b c d) := by
  have l := (fS_l h (Or.inl rfl)).2
  have l2 := fS_l h (Or.inl rfl)
  have hP := f_ofProfile h
  have hF := f_flagged h
  have hC := f_isConf h
  obtain ⟨⟨⟨b1, b2, b3, -⟩, ⟨c1, c2, c3⟩, -⟩, hJ, hw⟩ := h
  unfold jf_Bc_configure jt_Mo_configure
  rw [y_gRs b1 b3, Option.bind_some, y_av l.1, Option.bind_some, L_size l, Option.bind_some, in_eq, Option.bind_some, tin_blw (b := 4) (by decide), t_isConf, Option.bind_some]
  dsimp only
  rw [if_neg (show ¬ (8 : Int32) ≤ nI ([] : List Nat).length by decide), isProfile_eq, Option.bind_some, in_eq, Option.bind_some]
  dsimp only
  by_cases h3 : c = -1
  · rw [if_pos h3, if_pos h3]
    by_cases h1 : blw b 4 = 0
    · rw [if_pos h1, if_pos h3, if_pos h1]; exact pO_rd rfl rfl
    · obtain ⟨T', ht⟩ := t_configure (cap := cap) a b c d
      rw [if_neg h1, if_neg h1, if_pos h3, if_neg (c := tf (T0 cap) 11 = 8) (by rw [T0_f cap (by decide)]; decide), ht, y_gRs b1 b2, Option.bind_some, y_av c1, Option.bind_some, hP, Option.bind_some]
      dsimp only
      rw [y_gRs b1 b3, Option.bind_some, y_av b1, Option.bind_some]
      unfold jf_Bc_sharedKey
      generalize hi : a &&& 0 = i1
      generalize hm : i1 &&& d = m1
      rw [show jf_Bc_sharedKey_L3 lpK x (A 0) i1 m1 none 0 = jf_Bc_sharedKey_B3 (jf_Bc_sharedKey_L3 999) x (A 0) i1 m1 none 0 from rfl]
      unfold jf_Bc_sharedKey_B3
      rw [y_gRs b1 b3, Option.bind_some, y_av l.1, Option.bind_some, L_size l, Option.bind_some]
      dsimp only
      rw [if_pos (show nI ([] : List Nat).length ≤ 0 by decide), y_gRs b1 b2, Option.bind_some, y_av c1, Option.bind_some, hF, Option.bind_some]
      dsimp only
      rw [y_gRs b1 b2, Option.bind_some, y_av c1, Option.bind_some, hF, Option.bind_some]
      dsimp only
      simp only [Option.bind_assoc, Option.bind_some]
      refine st_nO (G := fun o => pO x o (some (T', 0))) (fun x1 u => ?_)
      have w1 := wf_uN hw u
      have J1 := jL_uN hJ u (by decide)
      obtain ⟨e, he⟩ : ∃ e, e = q_sz x := ⟨_, rfl⟩
      have a8 : q_al x1 8 e = true := by rw [u.2.2.2.2.2.1, if_pos ⟨rfl, he⟩]
      rw [← he]
      have k0 : q_al x1 0 (A 0) = true := uN_al u b1
      have k3 : q_fd x1 0 1 (A 0) = .ref (A 2) := by rw [u.2.2.2.2.2.2, if_neg (fun z => by cases z.1)]; exact b3
      have kl := (J1.1 _ _ l2.1).1
      rw [y_gRs k0 k3, Option.bind_some, y_av kl.1, Option.bind_some, L_size kl, Option.bind_some]
      simp only [jf_Ke_init, Option.bind_assoc, Option.bind_some]
      refine st_pI (G := fun o => pO x o (some (T', 0))) a8 (fun x2 v2 => ?_)
      have a82 : q_al x2 8 e = true := by rw [v2.2.2.1]; exact a8
      refine st_pI (G := fun o => pO x o (some (T', 0))) a82 (fun x3 v3 => ?_)
      have a83 : q_al x3 8 e = true := by rw [v3.2.2.1]; exact a82
      refine st_pI (G := fun o => pO x o (some (T', 0))) a83 (fun x4 v4 => ?_)
      have a84 : q_al x4 8 e = true := by rw [v4.2.2.1]; exact a83
      refine st_pI (G := fun o => pO x o (some (T', 0))) a84 (fun x5 v5 => ?_)
      have a85 : q_al x5 8 e = true := by rw [v5.2.2.1]; exact a84
      refine st_pI (G := fun o => pO x o (some (T', 0))) a85 (fun x6 v6 => ?_)
      have a86 : q_al x6 8 e = true := by rw [v6.2.2.1]; exact a85
      refine st_pR (G := fun o => pO x o (some (T', 0))) a86 (fun x7 v7 => ?_)
      have a87 : q_al x7 8 e = true := by rw [v7.2.2.1]; exact a86
      have J7 := jL_uF (jL_uF (jL_uF (jL_uF (jL_uF (jL_uF J1 v2 (by decide)) v3 (by decide)) v4 (by decide)) v5 (by decide)) v6 (by decide)) v7 (by decide)
      have w7 := wf_uF (wf_uF (wf_uF (wf_uF (wf_uF (wf_uF w1 v2) v3) v4) v5) v6) v7
      have f7 := (((((cFr_uN u (by decide)).tr (cFr_uF v2 (by decide))).tr (cFr_uF v3 (by decide))).tr (cFr_uF v4 (by decide))).tr (cFr_uF v5 (by decide))).tr ((cFr_uF v6 (by decide)).tr (cFr_uF v7 (by decide)))
      have k1 : q_al x7 0 (A 0) = true := by rw [v7.2.2.1, v6.2.2.1, v5.2.2.1, v4.2.2.1, v3.2.2.1, v2.2.2.1]; exact k0
      have fd : ∀ j, q_fd x7 0 j (A 0) = q_fd x 0 j (A 0) := fun j => by
        rw [v7.2.2.2.2.2.2, if_neg (fun z => by cases z.1), v6.2.2.2.2.2.2, if_neg (fun z => by cases z.1), v5.2.2.2.2.2.2, if_neg (fun z => by cases z.1), v4.2.2.2.2.2.2, if_neg (fun z => by cases z.1), v3.2.2.2.2.2.2, if_neg (fun z => by cases z.1), v2.2.2.2.2.2.2, if_neg (fun z => by cases z.1), u.2.2.2.2.2.2, if_neg (fun z => by cases z.1)]
      have s7 : q_sz x7 = q_sz x + 1 := by rw [v7.1, v6.1, v5.1, v4.1, v3.1, v2.1, u.1]
      have m7 : q_sl x7 = q_sl x + 7 := by rw [v7.2.1, v6.2.1, v5.2.1, v4.2.1, v3.2.1, v2.2.1, u.2.1]; rfl
      have l7 := (J7.1 _ _ l2.1).1
      obtain ⟨y, g1, g2, g3⟩ := L_add J7 l2.1 w7 (q_ok_c a87 (by decide)) (by decide)
      have gl := (g2.1 (A 2) [e] (if_pos rfl)).1
      have y1 : q_al y 0 (A 0) = true := by rw [g3.1]; exact k1
      have y3 : q_fd y 0 1 (A 0) = .ref (A 2) := by rw [g3.2.2.2.1 0 (by decide), fd]; exact b3
      rw [y_av l7.1, Option.bind_some, g1, Option.bind_some]
      dsimp only
      rw [y_gRs y1 y3, Option.bind_some, y_av gl.1, Option.bind_some, L_size gl, Option.bind_some]
      dsimp only
      have h5 := g3.2.2.2.2.2.1
      have h6 := g3.2.2.2.2.2.2.2.1
      exact ⟨y, T', 0, congrArg some (Prod.ext rfl (show nI 1 - 1 = 0 by decide)), rfl, f7.tr (cFr_oL g3), by omega, by omega⟩
  · rw [if_neg h3, if_neg h3, if_pos rfl]
    refine pO_rd (r := -1) (T' := T0 cap) ?_ ?_
    · by_cases h1 : blw b 4 = 0
      · rw [if_pos h1]
      · rw [if_neg h1, y_av b1, Option.bind_some, hC, Option.bind_some]; rfl
    · split <;> rfl
end FR
