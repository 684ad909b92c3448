/-! Numbers out of the reference's ints; its keys. -/
def oI (o : Option Nat) : Int32 := match o with
  | none => -1
  | some n => nI n
abbrev tV (T : tT) (t i : Nat) : Nat := (T.2 t i).toNatClampNeg
def tO (T : tT) (t i : Nat) : Option Nat := if T.2 t i < 0 then none else some (tV T t i)
theorem oI_neg {o : Option Nat} (h : ∀ n, o = some n → n < 2 ^ 31) : oI o < 0 ↔ o = none := by
  cases o with
  | none => exact ⟨fun _ => rfl, fun _ => by decide⟩
  | some n => exact ⟨fun z => absurd z (nI_pos (h n rfl)), fun z => by cases z⟩
theorem oI_0le {o : Option Nat} (h : ∀ n, o = some n → n < 2 ^ 31) : 0 ≤ oI o ↔ o ≠ none := by
  cases o with
  | none => exact ⟨fun z => absurd z (by decide), fun z => absurd rfl z⟩
  | some n => exact ⟨fun _ z => (by cases z), fun _ => nI_pos' (h n rfl)⟩
theorem tO_of {T : tT} {t i : Nat} {o : Option Nat} (h : T.2 t i = oI o) (hb : ∀ n, o = some n → n < 2 ^ 31) : tO T t i = o := by
  unfold tO tV
  rw [h]
  cases o with
  | none => rw [if_pos (by decide)]
  | some n => rw [if_neg (show ¬ oI (some n) < 0 from nI_pos (hb n rfl))]; exact congrArg some (nI_clamp (hb n rfl))
/-- keys: rp gives the first configuration with the same key -/
def kI (T : tT) (rp : Nat → Nat) (nc : Nat) : Prop :=
  nc ≤ 8 ∧ (∀ j, j < nc → T.2 20 j = oI (tO T 20 j)) ∧ (∀ j q, j < nc → tO T 20 j = some q → q < j) ∧ (∀ j q r, j < nc → tO T 20 j = some q → tO T 20 q = some r → tO T 20 r = none) ∧ (∀ j, j < nc → rp j ≤ j ∧ rp (rp j) = rp j) ∧ ∀ i j, i < nc → j < nc → (rp i = rp j ↔ T.2 18 i = T.2 18 j ∧ T.2 19 i = T.2 19 j ∧ (tO T 20 i).map rp = (tO T 20 j).map rp)
def dpt (T : tT) (nc : Nat) : Nat → Option Nat → Prop
  | 0, o => o = none
  | n + 1, o => ∀ q, o = some q → q < nc ∧ dpt T nc n (tO T 20 q)
theorem dpt_b {T : tT} {nc n : Nat} {o : Option Nat} (hn : nc ≤ 8) (h : dpt T nc n o) : ∀ q, o = some q → q < 2 ^ 31 := fun q hq => by
  cases n with
  | zero => cases (show o = none from h).symm.trans hq
  | succ n => have := (h q hq).1; omega
theorem dpt_3 {T : tT} {rp : Nat → Nat} {nc j : Nat} (h : kI T rp nc) (hj : j < nc) : dpt T nc 3 (some j) := by
  obtain ⟨-, -, h2, h3, -⟩ := h
  intro q hq
  cases hq
  refine ⟨hj, fun q hq => ?_⟩
  have l1 := h2 j q hj hq
  refine ⟨by omega, fun r hr => ?_⟩
  have l2 := h2 q r (by omega) hr
  exact ⟨by omega, h3 j q r hj hq hr⟩
theorem eq_L {T : tT} {rp : Nat → Nat} {nc : Nat} (h : kI T rp nc) : ∀ (n m k : Nat) (o p : Option Nat), dpt T nc n o → dpt T nc n p → n < m → n + k ≤ 4 → jt_Mo_equal_L8 m T (oI o) (oI p) (nI k) = some (T, if o.map rp = p.map rp then 1 else 0) := by
  obtain ⟨hc, h1, h2, h3, h4, h5⟩ := h
  intro n
  induction n with
  | zero =>
    intro m k o p ho hp hm hk
    cases (show o = none from ho)
    cases (show p = none from hp)
    obtain ⟨m, rfl⟩ : ∃ m', m = m' + 1 := ⟨m - 1, by omega⟩
    show jt_Mo_equal_B8 (jt_Mo_equal_L8 m) T (oI none) (oI none) (nI k) = _
    unfold jt_Mo_equal_B8
    rw [if_pos rfl]
    by_cases hk4 : (4 : Int32) ≤ nI k
    · rw [if_pos hk4]
    · rw [if_neg hk4, if_pos (by decide), if_neg (by decide), if_neg (by decide)]
  | succ n ih =>
    intro m k o p ho hp hm hk
    obtain ⟨m, rfl⟩ : ∃ m', m = m' + 1 := ⟨m - 1, by omega⟩
    show jt_Mo_equal_B8 (jt_Mo_equal_L8 m) T (oI o) (oI p) (nI k) = _
    have bo := dpt_b hc ho
    have bp := dpt_b hc hp
    unfold jt_Mo_equal_B8
    rw [if_neg (show ¬ (4 : Int32) ≤ nI k from nI_ge (a := k) (b := 4) (by omega) (by omega))]
    cases o with
    | none =>
      rw [if_pos ((oI_neg bo).mpr rfl), if_neg (fun z => (oI_0le bo).mp z rfl)]
      cases p with
      | none => rw [if_neg (fun z => (oI_0le bp).mp z rfl), if_pos rfl]
      | some s => rw [if_pos ((oI_0le bp).mpr (fun z => by cases z)), if_neg (fun z => by cases z)]
    | some q =>
      rw [if_neg (fun z => by cases (oI_neg bo).mp z)]
      cases p with
      | none => rw [if_neg (fun z => (oI_0le bp).mp z rfl), if_pos ((oI_0le bo).mpr (fun z => by cases z)), if_neg (fun z => by cases z)]
      | some s =>
        have hq := (ho q rfl).1
        have hs := (hp s rfl).1
        have e := h5 q s hq hs
        rw [if_pos ((oI_0le bp).mpr (fun z => by cases z))]
        show ((tl T 18 8 (nI q)).bind fun v3 => (tl T 18 8 (nI s)).bind fun v5 => _) = _
        rw [tl_n (by omega) (by decide), Option.bind_some, tl_n (by omega) (by decide), Option.bind_some]
        by_cases e1 : T.2 18 q = T.2 18 s
        · rw [if_pos e1]
          show ((tl T 19 8 (nI q)).bind fun v3 => (tl T 19 8 (nI s)).bind fun v5 => _) = _
          rw [tl_n (by omega) (by decide), Option.bind_some, tl_n (by omega) (by decide), Option.bind_some]
          by_cases e2 : T.2 19 q = T.2 19 s
          · rw [if_pos e2]
            show ((tl T 20 8 (nI q)).bind fun v3 => (tl T 20 8 (nI s)).bind fun v5 => _) = _
            rw [tl_n (by omega) (by decide), Option.bind_some, tl_n (by omega) (by decide), Option.bind_some, h1 q hq, h1 s hs, nI_1, ih m (k + 1) _ _ (ho q rfl).2 (hp s rfl).2 (by omega) (by omega)]
            refine congrArg some (Prod.ext rfl ?_)
            dsimp only
            by_cases e3 : (tO T 20 q).map rp = (tO T 20 s).map rp
            · rw [if_pos e3, if_pos (c := Option.map rp (some q) = Option.map rp (some s)) (congrArg some (e.mpr ⟨e1, e2, e3⟩))]
            · rw [if_neg e3, if_neg (c := Option.map rp (some q) = Option.map rp (some s)) (fun z => e3 (e.mp (Option.some.inj z)).2.2)]
          · rw [if_neg e2, if_neg (c := Option.map rp (some q) = Option.map rp (some s)) (fun z => e2 (e.mp (Option.some.inj z)).2.1)]
        · rw [if_neg e1, if_neg (c := Option.map rp (some q) = Option.map rp (some s)) (fun z => e1 (e.mp (Option.some.inj z)).1)]
theorem equal_eq {T : tT} {rp : Nat → Nat} {nc i j : Nat} (h : kI T rp nc) (hi : i < nc) (hj : j < nc) : jt_Mo_equal T (nI i) (nI j) = some (T, if rp i = rp j then 1 else 0) := by
  unfold jt_Mo_equal
  have := eq_L h 3 lpK 0 (some i) (some j) (dpt_3 h hi) (dpt_3 h hj) (by decide) (by decide)
  refine Eq.trans this (congrArg some (Prod.ext rfl ?_))
  dsimp only
  by_cases e : rp i = rp j
  · rw [if_pos e, if_pos (c := Option.map rp (some i) = Option.map rp (some j)) (congrArg some e)]
  · rw [if_neg e, if_neg (c := Option.map rp (some i) = Option.map rp (some j)) (fun z => e (Option.some.inj z))]
theorem key_L {T : tT} {rp : Nat → Nat} {nc j : Nat} (h : kI T rp nc) (hj : j < nc) : ∀ (m r i : Nat), i + r = rp j → r < m → jt_Mo_key_L12 m T (nI j) (nI i) = some (T, nI (rp j)) := by
  have hc := h.1
  have h4 := h.2.2.2.2.1
  intro m
  induction m with
  | zero => intro r i _ h; omega
  | succ m ih =>
    intro r i hr hm
    have hrj := (h4 j hj).1
    show jt_Mo_key_B12 (jt_Mo_key_L12 m) T (nI j) (nI i) = _
    unfold jt_Mo_key_B12
    by_cases hij : j ≤ i
    · rw [if_pos (nI_le hij (by omega)), show rp j = j by omega]
    · rw [if_neg (nI_ge (by omega) (by omega)), equal_eq h (by omega) hj, Option.bind_some]
      dsimp only
      cases r with
      | zero =>
        have e : rp i = rp j := by rw [show i = rp j by omega]; exact (h4 j hj).2
        rw [if_pos e, if_neg (by decide), show rp j = i by omega]
      | succ r =>
        have e : rp i ≠ rp j := fun e => by have := (h4 i (by omega)).1; omega
        rw [if_neg e, if_pos rfl, nI_1]
        exact ih r (i + 1) (by omega) (by omega)
theorem isConf_eq {T : tT} {nc : Nat} (hn : nc < 2 ^ 31) (h : T.1 11 = nI nc) (a : Int32) : jt_Mo_isConfiguration T a = some (T, blw a (nI nc)) := by
  unfold jt_Mo_isConfiguration
  rw [in_eq, Option.bind_some, show tf T 11 = nI nc from h]
  have e : tin a 0 (nI nc - 1) = blw a (nI nc) := by
    refine tin_blw ?_
    cases nc with
    | zero => decide
    | succ n => rw [nI_pred, nI_toInt hn, nI_toInt (by omega)]; omega
  rw [e]
  exact if_pos (blw_and _ _)
theorem key_eq {T : tT} {rp : Nat → Nat} {nc j : Nat} (h : kI T rp nc) (hc : T.1 11 = nI nc) (hj : j < nc) : jt_Mo_key T (nI j) = some (T, nI (rp j)) := by
  have hn := h.1
  unfold jt_Mo_key
  rw [isConf_eq (by omega) hc, Option.bind_some, blw_of hj (by omega)]
  dsimp only
  rw [if_neg (by decide)]
  exact key_L h hj lpK (rp j) 0 (Nat.zero_add _) (by have := (h.2.2.2.2.1 j hj).1; unfold lpK; omega)
