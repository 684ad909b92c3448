/-! Small helpers of both sides. -/
def blw (a b : Int32) : Int32 := if a < 0 then 0 else if b ≤ a then 0 else 1
def tin (a b c : Int32) : Int32 := if a < b then 0 else if c < a then 0 else 1
theorem blw_01 (a b : Int32) : blw a b = 0 ∨ blw a b = 1 := by unfold blw; split; exact Or.inl rfl; split; exact Or.inl rfl; exact Or.inr rfl
theorem blw_and (a b : Int32) : blw a b &&& 1 = blw a b := by rcases blw_01 a b with h | h <;> rw [h] <;> decide
theorem tin_01 (a b c : Int32) : tin a b c = 0 ∨ tin a b c = 1 := by unfold tin; split; exact Or.inl rfl; split; exact Or.inl rfl; exact Or.inr rfl
theorem tin_and (a b c : Int32) : tin a b c &&& 1 = tin a b c := by rcases tin_01 a b c with h | h <;> rw [h] <;> decide
theorem isBelow_eq (x : q_S) (a b : Int32) : jf_Bc_isBelow x a b = some (x, blw a b) := by
  unfold jf_Bc_isBelow blw; split; rfl; split <;> rfl
theorem isType_eq (x : q_S) (a : Int32) : jf_Bc_isType x a = some (x, blw a 6) := by
  unfold jf_Bc_isType; rw [isBelow_eq]; show (if _ then _ else _) = _; rw [if_pos (blw_and _ _)]
theorem isQualifier_eq (x : q_S) (a : Int32) : jf_Bc_isQualifier x a = some (x, blw a 4) := by
  unfold jf_Bc_isQualifier; rw [isBelow_eq]; show (if _ then _ else _) = _; rw [if_pos (blw_and _ _)]
theorem isProfile_eq (x : q_S) (a : Int32) : jf_Bc_isProfile x a = some (x, blw a 4) := by
  unfold jf_Bc_isProfile; rw [isBelow_eq]; show (if _ then _ else _) = _; rw [if_pos (blw_and _ _)]
theorem in_eq (T : tT) (a b c : Int32) : jt_Mo_in T a b c = some (T, tin a b c) := by
  unfold jt_Mo_in tin; split; rfl; split <;> rfl
theorem tin_blw {a b c : Int32} (h : b.toInt = c.toInt + 1) : tin a 0 c = blw a b := by
  unfold tin blw
  by_cases h1 : a < 0
  · rw [if_pos h1, if_pos h1]
  · rw [if_neg h1, if_neg h1]
    by_cases h2 : c < a
    · rw [if_pos h2, if_pos]
      rw [Int32.lt_iff_toInt_lt] at h2
      rw [Int32.le_iff_toInt_le]; omega
    · rw [if_neg h2, if_neg]
      rw [Int32.lt_iff_toInt_lt] at h2
      rw [Int32.le_iff_toInt_le]; omega
theorem blw_1 {a b : Int32} (h : blw a b ≠ 0) : ¬ a < 0 ∧ a < b := by
  unfold blw at h
  by_cases h1 : a < 0
  · rw [if_pos h1] at h; exact absurd rfl h
  · rw [if_neg h1] at h
    by_cases h2 : b ≤ a
    · rw [if_pos h2] at h; exact absurd rfl h
    · exact ⟨h1, Int32.not_le.mp h2⟩
theorem blw_n {a : Int32} {n : Nat} (hn : n < 2 ^ 31) (h : blw a (nI n) ≠ 0) : ∃ i, i < n ∧ a = nI i := by
  obtain ⟨h1, h2⟩ := blw_1 h
  obtain ⟨j, hj, e⟩ := nI_of h1
  refine ⟨j, ?_, e⟩
  rw [e] at h2
  exact (nI_ltI hj hn).mp h2
theorem blw_of {i n : Nat} (hi : i < n) (hn : n < 2 ^ 31) : blw (nI i) (nI n) = 1 := by
  unfold blw
  rw [if_neg (nI_pos (by omega)), if_neg (nI_ge hi hn)]
def nam (a : Int32) : Int32 := if a = (-1) then 1 else blw a 10
theorem isName_eq (x : q_S) (a : Int32) : jf_Bc_isName x a = some (x, nam a) := by
  unfold jf_Bc_isName nam
  split
  · rfl
  · rw [isBelow_eq]
    show (if _ then _ else _) = _
    rcases blw_01 a 10 with h | h <;> rw [h] <;> rfl
theorem tin_nam (a : Int32) : tin a (-1) 9 = nam a := by
  unfold nam
  by_cases h : a = (-1)
  · rw [if_pos h, h]; decide
  · rw [if_neg h]
    unfold tin blw
    have h1 : (a < -1) ↔ (a < 0) := by
      rw [Int32.lt_iff_toInt_lt, Int32.lt_iff_toInt_lt]
      have : a.toInt ≠ -1 := fun e => h (Int32.toInt_inj.mp (e.trans (by decide)))
      have e1 : (-1 : Int32).toInt = -1 := by decide
      have e2 : (0 : Int32).toInt = 0 := by decide
      omega
    have h2 : (9 < a) ↔ ((10 : Int32) ≤ a) := by
      rw [Int32.lt_iff_toInt_lt, Int32.le_iff_toInt_le]
      have e1 : (9 : Int32).toInt = 9 := by decide
      have e2 : (10 : Int32).toInt = 10 := by decide
      omega
    simp only [h1, h2]
theorem asked_eq (T : tT) (a b c : Int32) : jt_Mo_asked T a b c = some (T, if blw a 6 = 0 then 0 else if blw b 4 = 0 then 0 else if nam c = 0 then 0 else 1) := by
  unfold jt_Mo_asked
  simp only [in_eq, Option.bind_some, tin_blw (a := a) (b := 6) (c := 5) (by decide), tin_blw (a := b) (b := 4) (c := 3) (by decide), tin_nam]
  split
  · rfl
  · split
    · rfl
    · split <;> rfl
theorem tl_n {T : tT} {t n i : Nat} (h : i < n) (hn : n < 2 ^ 31) : tl T t n (nI i) = some (T.2 t i) := by
  unfold tl; rw [if_neg (nI_in h hn), nI_clamp (by omega)]
def tset (T : tT) (t : Nat) (g : Nat → Int32) : tT := (T.1, fun u => if u = t then g else T.2 u)
theorem tw_n {T : tT} {t n i : Nat} {v : Int32} (h : i < n) (hn : n < 2 ^ 31) : tw T t n (nI i) v = some (tset T t (upd (T.2 t) i v)) := by
  unfold tw; rw [if_neg (nI_in h hn), nI_clamp (by omega)]; rfl
theorem tset_g (T : tT) (t : Nat) (g : Nat → Int32) : (tset T t g).2 t = g := if_pos rfl
theorem tset_o (T : tT) {t u : Nat} (g : Nat → Int32) (h : u ≠ t) : (tset T t g).2 u = T.2 u := if_neg h
theorem tset_f (T : tT) (t : Nat) (g : Nat → Int32) (k : Nat) : tf (tset T t g) k = tf T k := rfl
theorem tset_t (T : tT) (t : Nat) (g h : Nat → Int32) : tset (tset T t g) t h = tset T t h := by
  unfold tset
  refine Prod.ext rfl ?_
  funext u
  dsimp only
  by_cases hu : u = t
  · rw [if_pos hu, if_pos hu]
  · rw [if_neg hu, if_neg hu, if_neg hu]
theorem tset_s (T : tT) (t : Nat) : tset T t (T.2 t) = T := by
  unfold tset
  refine Prod.ext rfl ?_
  funext u
  dsimp only
  by_cases hu : u = t
  · rw [if_pos hu, hu]
  · rw [if_neg hu]
/-- what a call of the class leaves of the reference, and how much it may make -/
def cFr (x y : q_S) : Prop := q_al y 11 = q_al x 11 ∧ q_fd y 11 = q_fd x 11 ∧ (∀ t, 10 ≤ t → q_ai y t = q_ai x t) ∧ q_en y = q_en x ∧ q_sz x ≤ q_sz y ∧ q_sl x ≤ q_sl y
theorem cFr.rf (x : q_S) : cFr x x := ⟨rfl, rfl, fun _ _ => rfl, rfl, Nat.le_refl _, Nat.le_refl _⟩
theorem cFr.tr {x y z : q_S} (h : cFr x y) (g : cFr y z) : cFr x z := ⟨g.1.trans h.1, g.2.1.trans h.2.1, fun t ht => (g.2.2.1 t ht).trans (h.2.2.1 t ht), g.2.2.2.1.trans h.2.2.2.1, Nat.le_trans h.2.2.2.2.1 g.2.2.2.2.1, Nat.le_trans h.2.2.2.2.2 g.2.2.2.2.2⟩
theorem tM.fr {x y : q_S} {m : Nat} {ad : Nat → Nat} {T : tT} (h : tM x m ad T) (g : cFr x y) : tM y m ad T := by
  obtain ⟨h1, h2, h3⟩ := h
  obtain ⟨g1, g2, g3, -⟩ := g
  refine ⟨by rw [g1]; exact h1, fun k hk => by rw [g2]; exact h2 k hk, fun t k n ht => ?_⟩
  rw [g2, g3 t (tln_10 ht).1]
  exact h3 t k n ht
theorem cFr_uF {x y : q_S} {c k a : Nat} {v : Value} (u : uF x y c k a v) (hc : c ≠ 11) : cFr x y := by
  obtain ⟨u1, u2, u3, u4, u5, u6, u7⟩ := u
  refine ⟨by rw [u3], ?_, fun t _ => by rw [u4], u6, by omega, by omega⟩
  funext j b
  rw [u7, if_neg (fun z => hc z.1.symm)]
theorem cFr_uI {x y : q_S} {t a n : Nat} {g : Nat → Int32} (u : uI x y t a n g) (ht : t < 10) : cFr x y := by
  obtain ⟨u1, u2, u3, u4, u5, u6, u7⟩ := u
  refine ⟨by rw [u3], by rw [u6], fun t' ht' => ?_, u5, by omega, by omega⟩
  funext b
  rw [u7, if_neg (fun z => by omega)]
theorem cFr_uN {x y : q_S} {c : Nat} {dv : List Value} (u : uN x y c dv) (hc : c ≠ 11) : cFr x y := by
  obtain ⟨u1, u2, u3, u4, u5, u6, u7⟩ := u
  refine ⟨?_, ?_, fun t _ => by rw [u3], u5, by omega, by omega⟩
  · funext b; rw [u6, if_neg (fun z => hc z.1.symm)]
  · funext j b; rw [u7, if_neg (fun z => hc z.1.symm)]
theorem cFr_oL {x y : q_S} (u : oL x y) : cFr x y := by
  obtain ⟨u1, u2, u3, u4, u5, u6, u7, u8, -⟩ := u
  exact ⟨by rw [u1], u4 11 (by decide), fun t _ => by rw [u2], u3, u5, u7⟩
theorem cFr_tFr {x y : q_S} (u : tFr x y) : q_al y = q_al x ∧ q_en y = q_en x ∧ q_sz y = q_sz x ∧ q_sl y = q_sl x := ⟨u.2.2.2.1, u.2.2.2.2.2.1, u.1, u.2.1⟩
