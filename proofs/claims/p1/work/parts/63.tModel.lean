-- cached(I)I
def jt_Mo_cached_B21 (kk : tT → Int32 → Int32 → Int32 → Int32 → Option (tT × Int32)) (rc : tT → Int32 → Int32 → Int32 → Int32 → Option (tT × Int32)) (T : tT) (l1 : Int32) (l2 : Int32) (l3 : Int32) (l4 : Int32) : Option (tT × Int32) :=
  if (tf T 16) ≤ l4 then
    kk T l1 l2 l3 l4
  else
    (tl T 101 30 l4).bind fun v1 =>
    if v1 = 0 then
      rc T l1 l2 l3 (l4 + 1)
    else
      (tl T 24 30 l4).bind fun v3 =>
      (tl T 24 30 l2).bind fun v5 =>
      if v3 ≤ v5 then
        rc T l1 l2 l3 (l4 + 1)
      else
        rc T l1 l2 (l3 + 1) (l4 + 1)
def jt_Mo_cached_L21 (kk : tT → Int32 → Int32 → Int32 → Int32 → Option (tT × Int32)) : Nat → tT → Int32 → Int32 → Int32 → Int32 → Option (tT × Int32)
  | 0, _, _, _, _, _ => none
  | n + 1, T, l1, l2, l3, l4 => jt_Mo_cached_B21 kk (jt_Mo_cached_L21 kk n) T l1 l2 l3 l4
theorem ts_Mo_cached_B21 {m : Nat} {ad : Nat → Nat} {p : tT × Int32} {kk : tT → Int32 → Int32 → Int32 → Int32 → Option (tT × Int32)} {kj : q_S → Nat → Int32 → Int32 → Int32 → Int32 → Option (q_S × Int32)} (hkk : ∀ (x : q_S) (T : tT) (l1 : Int32) (l2 : Int32) (l3 : Int32) (l4 : Int32), tM x m ad T → kk T l1 l2 l3 l4 = some p → tS m ad x p (kj x m l1 l2 l3 l4)) {rc : tT → Int32 → Int32 → Int32 → Int32 → Option (tT × Int32)} {rj : q_S → Nat → Int32 → Int32 → Int32 → Int32 → Option (q_S × Int32)} (hrc : ∀ (x : q_S) (T : tT) (l1 : Int32) (l2 : Int32) (l3 : Int32) (l4 : Int32), tM x m ad T → rc T l1 l2 l3 l4 = some p → tS m ad x p (rj x m l1 l2 l3 l4)) (x : q_S) (T : tT) (l1 : Int32) (l2 : Int32) (l3 : Int32) (l4 : Int32) (hM : tM x m ad T) (hh : jt_Mo_cached_B21 kk rc T l1 l2 l3 l4 = some p) : tS m ad x p (jf_Mo_cached_B21 kj rj x m l1 l2 l3 l4) := by
  unfold jt_Mo_cached_B21 at hh
  unfold jf_Mo_cached_B21
  refine s_gI hM 16 rfl ?_
  rcases q_ite hh with ⟨c9, hh⟩ | ⟨c9, hh⟩
  · refine s_ift c9 ?_
    exact hkk _ _ _ _ _ _ hM hh
  · refine s_iff c9 ?_
    refine s_gR hM 101 19 rfl ?_
    obtain ⟨v1, e2, hh⟩ := q_bind hh
    refine s_lI hM 101 rfl e2 ?_
    rcases q_ite hh with ⟨c8, hh⟩ | ⟨c8, hh⟩
    · refine s_ift c8 ?_
      exact hrc _ _ _ _ _ _ hM hh
    · refine s_iff c8 ?_
      refine s_gR hM 24 20 rfl ?_
      obtain ⟨v3, e4, hh⟩ := q_bind hh
      refine s_lI hM 24 rfl e4 ?_
      refine s_gR hM 24 20 rfl ?_
      obtain ⟨v5, e6, hh⟩ := q_bind hh
      refine s_lI hM 24 rfl e6 ?_
      rcases q_ite hh with ⟨c7, hh⟩ | ⟨c7, hh⟩
      · refine s_ift c7 ?_
        exact hrc _ _ _ _ _ _ hM hh
      · refine s_iff c7 ?_
        exact hrc _ _ _ _ _ _ hM hh
theorem ts_Mo_cached_L21 {m : Nat} {ad : Nat → Nat} {p : tT × Int32} {kk : tT → Int32 → Int32 → Int32 → Int32 → Option (tT × Int32)} {kj : q_S → Nat → Int32 → Int32 → Int32 → Int32 → Option (q_S × Int32)} (hkk : ∀ (x : q_S) (T : tT) (l1 : Int32) (l2 : Int32) (l3 : Int32) (l4 : Int32), tM x m ad T → kk T l1 l2 l3 l4 = some p → tS m ad x p (kj x m l1 l2 l3 l4)) : ∀ (n : Nat) (x : q_S) (T : tT) (l1 : Int32) (l2 : Int32) (l3 : Int32) (l4 : Int32), tM x m ad T → jt_Mo_cached_L21 kk n T l1 l2 l3 l4 = some p → tS m ad x p (jf_Mo_cached_L21 kj n x m l1 l2 l3 l4)
  | 0, _, _, _, _, _, _, _, hh => nomatch hh
  | n + 1, x, T, l1, l2, l3, l4, hM, hh => ts_Mo_cached_B21 hkk (ts_Mo_cached_L21 hkk n) x T l1 l2 l3 l4 hM hh
def jt_Mo_cached_B8 (rc : tT → Int32 → Int32 → Option (tT × Int32)) (T : tT) (l1 : Int32) (l2 : Int32) : Option (tT × Int32) :=
  if (tf T 16) ≤ l2 then
    some (T, (-1))
  else
    jt_Mo_cached_L21 (fun y10 l1_10 l2_10 l3_10 l4_10 =>
      (tl y10 101 30 l2_10).bind fun v11 =>
      if v11 = 0 then
        rc y10 l1_10 (l2_10 + 1)
      else
        if l3_10 = l1_10 then
          some (y10, l2_10)
        else
          rc y10 l1_10 (l2_10 + 1)
    ) lpK T l1 l2 0 0
def jt_Mo_cached_L8 : Nat → tT → Int32 → Int32 → Option (tT × Int32)
  | 0, _, _, _ => none
  | n + 1, T, l1, l2 => jt_Mo_cached_B8 (jt_Mo_cached_L8 n) T l1 l2
theorem ts_Mo_cached_B8 {m : Nat} {ad : Nat → Nat} {p : tT × Int32} {rc : tT → Int32 → Int32 → Option (tT × Int32)} {rj : q_S → Nat → Int32 → Int32 → Option (q_S × Int32)} (hrc : ∀ (x : q_S) (T : tT) (l1 : Int32) (l2 : Int32), tM x m ad T → rc T l1 l2 = some p → tS m ad x p (rj x m l1 l2)) (x : q_S) (T : tT) (l1 : Int32) (l2 : Int32) (hM : tM x m ad T) (hh : jt_Mo_cached_B8 rc T l1 l2 = some p) : tS m ad x p (jf_Mo_cached_B8 rj x m l1 l2) := by
  unfold jt_Mo_cached_B8 at hh
  unfold jf_Mo_cached_B8
  refine s_gI hM 16 rfl ?_
  rcases q_ite hh with ⟨c16, hh⟩ | ⟨c16, hh⟩
  · refine s_ift c16 ?_
    cases hh
    exact s_ret hM
  · refine s_iff c16 ?_
    refine ts_Mo_cached_L21 (fun x15 y10 l1_10 l2_10 l3_10 l4_10 hM hh => ?_) lpK _ _ _ _ _ _ hM hh
    refine s_gR hM 101 19 rfl ?_
    obtain ⟨v11, e12, hh⟩ := q_bind hh
    refine s_lI hM 101 rfl e12 ?_
    rcases q_ite hh with ⟨c14, hh⟩ | ⟨c14, hh⟩
    · refine s_ift c14 ?_
      exact hrc _ _ _ _ hM hh
    · refine s_iff c14 ?_
      rcases q_ite hh with ⟨c13, hh⟩ | ⟨c13, hh⟩
      · refine s_ift c13 ?_
        cases hh
        exact s_ret hM
      · refine s_iff c13 ?_
        exact hrc _ _ _ _ hM hh
theorem ts_Mo_cached_L8 {m : Nat} {ad : Nat → Nat} {p : tT × Int32} : ∀ (n : Nat) (x : q_S) (T : tT) (l1 : Int32) (l2 : Int32), tM x m ad T → jt_Mo_cached_L8 n T l1 l2 = some p → tS m ad x p (jf_Mo_cached_L8 n x m l1 l2)
  | 0, _, _, _, _, _, hh => nomatch hh
  | n + 1, x, T, l1, l2, hM, hh => ts_Mo_cached_B8 (ts_Mo_cached_L8 n) x T l1 l2 hM hh
def jt_Mo_cached (T : tT) (a1 : Int32) : Option (tT × Int32) :=
  if 0 ≤ a1 then
    jt_Mo_cached_L8 lpK T a1 0
  else
    some (T, (-1))
theorem ts_Mo_cached {m : Nat} {ad : Nat → Nat} {x : q_S} {T : tT} {a1 : Int32} {p : tT × Int32} (hM : tM x m ad T) (hh : jt_Mo_cached T a1 = some p) : tS m ad x p (jf_Mo_cached x m a1) := by
  unfold jt_Mo_cached at hh
  unfold jf_Mo_cached
  rcases q_ite hh with ⟨c17, hh⟩ | ⟨c17, hh⟩
  · refine s_ift c17 ?_
    exact ts_Mo_cached_L8 lpK _ _ _ _ hM hh
  · refine s_iff c17 ?_
    cases hh
    exact s_ret hM
-- in(III)Z
def jt_Mo_in (T : tT) (a0 : Int32) (a1 : Int32) (a2 : Int32) : Option (tT × Int32) :=
  if a0 < a1 then
    some (T, 0)
  else
    if a2 < a0 then
      some (T, 0)
    else
      some (T, 1)
theorem ts_Mo_in {m : Nat} {ad : Nat → Nat} {x : q_S} {T : tT} {a0 : Int32} {a1 : Int32} {a2 : Int32} {p : tT × Int32} (hM : tM x m ad T) (hh : jt_Mo_in T a0 a1 a2 = some p) : tS m ad x p (jf_Mo_in x a0 a1 a2) := by
  unfold jt_Mo_in at hh
  unfold jf_Mo_in
  rcases q_ite hh with ⟨c2, hh⟩ | ⟨c2, hh⟩
  · refine s_ift c2 ?_
    cases hh
    exact s_ret hM
  · refine s_iff c2 ?_
    rcases q_ite hh with ⟨c1, hh⟩ | ⟨c1, hh⟩
    · refine s_ift c1 ?_
      cases hh
      exact s_ret hM
    · refine s_iff c1 ?_
      cases hh
      exact s_ret hM
-- live(I)Z
def jt_Mo_live (T : tT) (a1 : Int32) : Option (tT × Int32) :=
  (jt_Mo_in T a1 0 ((tf T 23) - 1)).bind fun p1 =>
  if p1.2 = 0 then
    some (p1.1, 0)
  else
    (tl p1.1 103 300 a1).bind fun v4 =>
    if v4 = 0 then
      some (p1.1, 1)
    else
      some (p1.1, 0)
theorem ts_Mo_live {m : Nat} {ad : Nat → Nat} {x : q_S} {T : tT} {a1 : Int32} {p : tT × Int32} (hM : tM x m ad T) (hh : jt_Mo_live T a1 = some p) : tS m ad x p (jf_Mo_live x m a1) := by
  unfold jt_Mo_live at hh
  unfold jf_Mo_live
  refine s_gI hM 23 rfl ?_
  obtain ⟨p1, e2, hh⟩ := q_bind hh
  refine s_call (ts_Mo_in hM e2) (fun x3 hM => ?_)
  rcases q_ite hh with ⟨c7, hh⟩ | ⟨c7, hh⟩
  · refine s_ift c7 ?_
    cases hh
    exact s_ret hM
  · refine s_iff c7 ?_
    refine s_gR hM 103 27 rfl ?_
    obtain ⟨v4, e5, hh⟩ := q_bind hh
    refine s_lI hM 103 rfl e5 ?_
    rcases q_ite hh with ⟨c6, hh⟩ | ⟨c6, hh⟩
    · refine s_ift c6 ?_
      cases hh
      exact s_ret hM
    · refine s_iff c6 ?_
      cases hh
      exact s_ret hM
-- call(II)J
def jt_Mo_call_B23 (rc : tT → Int32 → Int32 → Int32 → Int32 → Option (tT × Int64)) (T : tT) (l3 : Int32) (l4 : Int32) (l5 : Int32) (l6 : Int32) : Option (tT × Int64) :=
  if 301 ≤ l6 then
    some (T, 4294967296)
  else
    (tl T 102 300 l3).bind fun v4 =>
    if v4 = 0 then
      (tl T 26 300 l3).bind fun v6 =>
      (tl T 27 900 ((3 : Int32) * l3)).bind fun v8 =>
      if 0 ≤ v8 then
        (tl T 27 900 ((3 : Int32) * l3)).bind fun v10 =>
        rc T v10 (l4 + 1) (l5 + v6) (l6 + 1)
      else
        some (T, ((l5 + v6) + l4).toInt64)
    else
      (tl T 29 300 l3).bind fun v13 =>
      (tw T 29 300 l3 (v13 + 1)).bind fun T15 =>
      (tw T15 30 300 l3 l4).bind fun T18 =>
      (tl T18 28 300 l3).bind fun v21 =>
      some (T18, (l5 + v21).toInt64)
def jt_Mo_call_L23 : Nat → tT → Int32 → Int32 → Int32 → Int32 → Option (tT × Int64)
  | 0, _, _, _, _, _ => none
  | n + 1, T, l3, l4, l5, l6 => jt_Mo_call_B23 (jt_Mo_call_L23 n) T l3 l4 l5 l6
theorem ts_Mo_call_B23 {m : Nat} {ad : Nat → Nat} {p : tT × Int64} {rc : tT → Int32 → Int32 → Int32 → Int32 → Option (tT × Int64)} {rj : q_S → Nat → Int32 → Int32 → Int32 → Int32 → Option (q_S × Int64)} (hrc : ∀ (x : q_S) (T : tT) (l3 : Int32) (l4 : Int32) (l5 : Int32) (l6 : Int32), tM x m ad T → rc T l3 l4 l5 l6 = some p → tS m ad x p (rj x m l3 l4 l5 l6)) (x : q_S) (T : tT) (l3 : Int32) (l4 : Int32) (l5 : Int32) (l6 : Int32) (hM : tM x m ad T) (hh : jt_Mo_call_B23 rc T l3 l4 l5 l6 = some p) : tS m ad x p (jf_Mo_call_B23 rj x m l3 l4 l5 l6) := by
  unfold jt_Mo_call_B23 at hh
  unfold jf_Mo_call_B23
  rcases q_ite hh with ⟨c24, hh⟩ | ⟨c24, hh⟩
  · refine s_ift c24 ?_
    cases hh
    exact s_ret hM
  · refine s_iff c24 ?_
    refine s_gR hM 102 26 rfl ?_
    obtain ⟨v4, e5, hh⟩ := q_bind hh
    refine s_lI hM 102 rfl e5 ?_
    rcases q_ite hh with ⟨c23, hh⟩ | ⟨c23, hh⟩
    · refine s_ift c23 ?_
      refine s_gR hM 26 25 rfl ?_
      obtain ⟨v6, e7, hh⟩ := q_bind hh
      refine s_lI hM 26 rfl e7 ?_
      refine s_gR hM 27 28 rfl ?_
      obtain ⟨v8, e9, hh⟩ := q_bind hh
      refine s_lI hM 27 rfl e9 ?_
      rcases q_ite hh with ⟨c12, hh⟩ | ⟨c12, hh⟩
      · refine s_ift c12 ?_
        refine s_gR hM 27 28 rfl ?_
        obtain ⟨v10, e11, hh⟩ := q_bind hh
        refine s_lI hM 27 rfl e11 ?_
        exact hrc _ _ _ _ _ _ hM hh
      · refine s_iff c12 ?_
        cases hh
        exact s_ret hM
    · refine s_iff c23 ?_
      refine s_gR hM 29 30 rfl ?_
      obtain ⟨v13, e14, hh⟩ := q_bind hh
      refine s_lI hM 29 rfl e14 ?_
      obtain ⟨T15, e16, hh⟩ := q_bind hh
      refine s_sI hM 29 rfl e16 (fun x17 hM => ?_)
      refine s_gR hM 30 31 rfl ?_
      obtain ⟨T18, e19, hh⟩ := q_bind hh
      refine s_sI hM 30 rfl e19 (fun x20 hM => ?_)
      refine s_gR hM 28 29 rfl ?_
      obtain ⟨v21, e22, hh⟩ := q_bind hh
      refine s_lI hM 28 rfl e22 ?_
      cases hh
      exact s_ret hM
theorem ts_Mo_call_L23 {m : Nat} {ad : Nat → Nat} {p : tT × Int64} : ∀ (n : Nat) (x : q_S) (T : tT) (l3 : Int32) (l4 : Int32) (l5 : Int32) (l6 : Int32), tM x m ad T → jt_Mo_call_L23 n T l3 l4 l5 l6 = some p → tS m ad x p (jf_Mo_call_L23 n x m l3 l4 l5 l6)
  | 0, _, _, _, _, _, _, _, hh => nomatch hh
  | n + 1, x, T, l3, l4, l5, l6, hM, hh => ts_Mo_call_B23 (ts_Mo_call_L23 n) x T l3 l4 l5 l6 hM hh
def jt_Mo_call (T : tT) (a1 : Int32) (a2 : Int32) : Option (tT × Int64) :=
  (jt_Mo_live T a1).bind fun p1 =>
  if p1.2 = 0 then
    some (p1.1, 4294967296)
  else
    jt_Mo_call_L23 lpK p1.1 a1 a2 0 0
theorem ts_Mo_call {m : Nat} {ad : Nat → Nat} {x : q_S} {T : tT} {a1 : Int32} {a2 : Int32} {p : tT × Int64} (hM : tM x m ad T) (hh : jt_Mo_call T a1 a2 = some p) : tS m ad x p (jf_Mo_call x m a1 a2) := by
  unfold jt_Mo_call at hh
  unfold jf_Mo_call
  obtain ⟨p1, e2, hh⟩ := q_bind hh
  refine s_av hM ?_
  refine s_call (ts_Mo_live hM e2) (fun x3 hM => ?_)
  rcases q_ite hh with ⟨c25, hh⟩ | ⟨c25, hh⟩
  · refine s_ift c25 ?_
    cases hh
    exact s_ret hM
  · refine s_iff c25 ?_
    exact ts_Mo_call_L23 lpK _ _ _ _ _ _ hM hh
-- isConfiguration(I)Z
def jt_Mo_isConfiguration (T : tT) (a1 : Int32) : Option (tT × Int32) :=
  (jt_Mo_in T a1 0 ((tf T 11) - 1)).bind fun p1 =>
  if p1.2 &&& 1 = p1.2 then some (p1.1, p1.2) else none
theorem ts_Mo_isConfiguration {m : Nat} {ad : Nat → Nat} {x : q_S} {T : tT} {a1 : Int32} {p : tT × Int32} (hM : tM x m ad T) (hh : jt_Mo_isConfiguration T a1 = some p) : tS m ad x p (jf_Mo_isConfiguration x m a1) := by
  unfold jt_Mo_isConfiguration at hh
  unfold jf_Mo_isConfiguration
  refine s_gI hM 11 rfl ?_
  obtain ⟨p1, e2, hh⟩ := q_bind hh
  refine s_call (ts_Mo_in hM e2) (fun x3 hM => ?_)
  rcases q_ite hh with ⟨c4, hh⟩ | ⟨-, hh⟩
  · refine s_ift c4 ?_
    cases hh
    exact s_ret hM
  · cases hh
-- configure(IIII)I
def jt_Mo_configure_B74 (rc : tT → Int32 → Int32 → Int32 → Int32 → Int32 → Int32 → Option (tT × Int32)) (T : tT) (l1 : Int32) (l2 : Int32) (l3 : Int32) (l4 : Int32) (l6 : Int32) (l7 : Int32) : Option (tT × Int32) :=
  if (tf T 2) ≤ l7 then
    (tw T 18 8 (tf T 11) l6).bind fun T4 =>
    (tw T4 19 8 (tf T4 11) (l6 &&& l4)).bind fun T7 =>
    (tw T7 20 8 (tf T7 11) l3).bind fun T10 =>
    (tpi T10 11 ((tf T10 11) + 1)).bind fun T13 =>
    some (T13, (tf T13 11) - 1)
  else
    if ((l1 >>> (l7 &&& 31)) &&& 1) = 1 then
      (tl T 13 10 l7).bind fun v16 =>
      if v16 = 0 then
        rc T l1 l2 l3 l4 (l6 ||| ((1 : Int32) <<< (l7 &&& 31))) (l7 + 1)
      else
        (tl T 13 10 l7).bind fun v18 =>
        if v18 = l2 then
          rc T l1 l2 l3 l4 (l6 ||| ((1 : Int32) <<< (l7 &&& 31))) (l7 + 1)
        else
          rc T l1 l2 l3 l4 l6 (l7 + 1)
    else
      rc T l1 l2 l3 l4 l6 (l7 + 1)
def jt_Mo_configure_L74 : Nat → tT → Int32 → Int32 → Int32 → Int32 → Int32 → Int32 → Option (tT × Int32)
  | 0, _, _, _, _, _, _, _ => none
  | n + 1, T, l1, l2, l3, l4, l6, l7 => jt_Mo_configure_B74 (jt_Mo_configure_L74 n) T l1 l2 l3 l4 l6 l7
theorem ts_Mo_configure_B74 {m : Nat} {ad : Nat → Nat} {p : tT × Int32} {rc : tT → Int32 → Int32 → Int32 → Int32 → Int32 → Int32 → Option (tT × Int32)} {rj : q_S → Nat → Int32 → Int32 → Int32 → Int32 → Int32 → Int32 → Option (q_S × Int32)} (hrc : ∀ (x : q_S) (T : tT) (l1 : Int32) (l2 : Int32) (l3 : Int32) (l4 : Int32) (l6 : Int32) (l7 : Int32), tM x m ad T → rc T l1 l2 l3 l4 l6 l7 = some p → tS m ad x p (rj x m l1 l2 l3 l4 l6 l7)) (x : q_S) (T : tT) (l1 : Int32) (l2 : Int32) (l3 : Int32) (l4 : Int32) (l6 : Int32) (l7 : Int32) (hM : tM x m ad T) (hh : jt_Mo_configure_B74 rc T l1 l2 l3 l4 l6 l7 = some p) : tS m ad x p (jf_Mo_configure_B74 rj x m l1 l2 l3 l4 l6 l7) := by
  unfold jt_Mo_configure_B74 at hh
  unfold jf_Mo_configure_B74
  refine s_gI hM 2 rfl ?_
  rcases q_ite hh with ⟨c23, hh⟩ | ⟨c23, hh⟩
  · refine s_ift c23 ?_
    refine s_gR hM 18 12 rfl ?_
    refine s_gI hM 11 rfl ?_
    obtain ⟨T4, e5, hh⟩ := q_bind hh
    refine s_sI hM 18 rfl e5 (fun x6 hM => ?_)
    refine s_gR hM 19 13 rfl ?_
    refine s_gI hM 11 rfl ?_
    obtain ⟨T7, e8, hh⟩ := q_bind hh
    refine s_sI hM 19 rfl e8 (fun x9 hM => ?_)
    refine s_gR hM 20 14 rfl ?_
    refine s_gI hM 11 rfl ?_
    obtain ⟨T10, e11, hh⟩ := q_bind hh
    refine s_sI hM 20 rfl e11 (fun x12 hM => ?_)
    refine s_gI hM 11 rfl ?_
    obtain ⟨T13, e14, hh⟩ := q_bind hh
    refine s_pI hM 11 rfl e14 (fun x15 hM => ?_)
    refine s_gI hM 11 rfl ?_
    cases hh
    exact s_ret hM
  · refine s_iff c23 ?_
    rcases q_ite hh with ⟨c22, hh⟩ | ⟨c22, hh⟩
    · refine s_ift c22 ?_
      refine s_gR hM 13 6 rfl ?_
      obtain ⟨v16, e17, hh⟩ := q_bind hh
      refine s_lI hM 13 rfl e17 ?_
      rcases q_ite hh with ⟨c21, hh⟩ | ⟨c21, hh⟩
      · refine s_ift c21 ?_
        exact hrc _ _ _ _ _ _ _ _ hM hh
      · refine s_iff c21 ?_
        refine s_gR hM 13 6 rfl ?_
        obtain ⟨v18, e19, hh⟩ := q_bind hh
        refine s_lI hM 13 rfl e19 ?_
        rcases q_ite hh with ⟨c20, hh⟩ | ⟨c20, hh⟩
        · refine s_ift c20 ?_
          exact hrc _ _ _ _ _ _ _ _ hM hh
        · refine s_iff c20 ?_
          exact hrc _ _ _ _ _ _ _ _ hM hh
    · refine s_iff c22 ?_
      exact hrc _ _ _ _ _ _ _ _ hM hh
theorem ts_Mo_configure_L74 {m : Nat} {ad : Nat → Nat} {p : tT × Int32} : ∀ (n : Nat) (x : q_S) (T : tT) (l1 : Int32) (l2 : Int32) (l3 : Int32) (l4 : Int32) (l6 : Int32) (l7 : Int32), tM x m ad T → jt_Mo_configure_L74 n T l1 l2 l3 l4 l6 l7 = some p → tS m ad x p (jf_Mo_configure_L74 n x m l1 l2 l3 l4 l6 l7)
  | 0, _, _, _, _, _, _, _, _, _, hh => nomatch hh
  | n + 1, x, T, l1, l2, l3, l4, l6, l7, hM, hh => ts_Mo_configure_B74 (ts_Mo_configure_L74 n) x T l1 l2 l3 l4 l6 l7 hM hh
def jt_Mo_configure (T : tT) (a1 : Int32) (a2 : Int32) (a3 : Int32) (a4 : Int32) : Option (tT × Int32) :=
  if a3 = (-1) then
    (jt_Mo_in T a2 0 3).bind fun p1 =>
    if p1.2 = 0 then
      some (p1.1, (-1))
    else
      if (tf p1.1 11) = 8 then
        some (p1.1, (-1))
      else
        jt_Mo_configure_L74 lpK p1.1 a1 a2 a3 a4 0 0
  else
    (jt_Mo_isConfiguration T a3).bind fun p26 =>
    if p26.2 = 0 then
      (jt_Mo_in p26.1 a2 0 3).bind fun p29 =>
      if p29.2 = 0 then
        some (p29.1, (-1))
      else
        some (p29.1, (-1))
    else
      (tl p26.1 20 8 a3).bind fun v33 =>
      if v33 < 0 then
        (jt_Mo_in p26.1 a2 0 3).bind fun p35 =>
        if p35.2 = 0 then
          some (p35.1, (-1))
        else
          if (tf p35.1 11) = 8 then
            some (p35.1, (-1))
          else
            jt_Mo_configure_L74 lpK p35.1 a1 a2 a3 a4 0 0
      else
        (tl p26.1 20 8 a3).bind fun v40 =>
        (tl p26.1 20 8 v40).bind fun v42 =>
        if 0 ≤ v42 then
          (jt_Mo_in p26.1 a2 0 3).bind fun p44 =>
          if p44.2 = 0 then
            some (p44.1, (-1))
          else
            some (p44.1, (-1))
        else
          (jt_Mo_in p26.1 a2 0 3).bind fun p48 =>
          if p48.2 = 0 then
            some (p48.1, (-1))
          else
            if (tf p48.1 11) = 8 then
              some (p48.1, (-1))
            else
              jt_Mo_configure_L74 lpK p48.1 a1 a2 a3 a4 0 0
theorem ts_Mo_configure {m : Nat} {ad : Nat → Nat} {x : q_S} {T : tT} {a1 : Int32} {a2 : Int32} {a3 : Int32} {a4 : Int32} {p : tT × Int32} (hM : tM x m ad T) (hh : jt_Mo_configure T a1 a2 a3 a4 = some p) : tS m ad x p (jf_Mo_configure x m a1 a2 a3 a4) := by
  unfold jt_Mo_configure at hh
  unfold jf_Mo_configure
  rcases q_ite hh with ⟨c56, hh⟩ | ⟨c56, hh⟩
  · refine s_ift c56 ?_
    obtain ⟨p1, e2, hh⟩ := q_bind hh
    refine s_call (ts_Mo_in hM e2) (fun x3 hM => ?_)
    rcases q_ite hh with ⟨c25, hh⟩ | ⟨c25, hh⟩
    · refine s_ift c25 ?_
      cases hh
      exact s_ret hM
    · refine s_iff c25 ?_
      refine s_gI hM 11 rfl ?_
      rcases q_ite hh with ⟨c24, hh⟩ | ⟨c24, hh⟩
      · refine s_ift c24 ?_
        cases hh
        exact s_ret hM
      · refine s_iff c24 ?_
        exact ts_Mo_configure_L74 lpK _ _ _ _ _ _ _ _ hM hh
  · refine s_iff c56 ?_
    obtain ⟨p26, e27, hh⟩ := q_bind hh
    refine s_av hM ?_
    refine s_call (ts_Mo_isConfiguration hM e27) (fun x28 hM => ?_)
    rcases q_ite hh with ⟨c55, hh⟩ | ⟨c55, hh⟩
    · refine s_ift c55 ?_
      obtain ⟨p29, e30, hh⟩ := q_bind hh
      refine s_call (ts_Mo_in hM e30) (fun x31 hM => ?_)
      rcases q_ite hh with ⟨c32, hh⟩ | ⟨c32, hh⟩
      · refine s_ift c32 ?_
        cases hh
        exact s_ret hM
      · refine s_iff c32 ?_
        cases hh
        exact s_ret hM
    · refine s_iff c55 ?_
      refine s_gR hM 20 14 rfl ?_
      obtain ⟨v33, e34, hh⟩ := q_bind hh
      refine s_lI hM 20 rfl e34 ?_
      rcases q_ite hh with ⟨c54, hh⟩ | ⟨c54, hh⟩
      · refine s_ift c54 ?_
        obtain ⟨p35, e36, hh⟩ := q_bind hh
        refine s_call (ts_Mo_in hM e36) (fun x37 hM => ?_)
        rcases q_ite hh with ⟨c39, hh⟩ | ⟨c39, hh⟩
        · refine s_ift c39 ?_
          cases hh
          exact s_ret hM
        · refine s_iff c39 ?_
          refine s_gI hM 11 rfl ?_
          rcases q_ite hh with ⟨c38, hh⟩ | ⟨c38, hh⟩
          · refine s_ift c38 ?_
            cases hh
            exact s_ret hM
          · refine s_iff c38 ?_
            exact ts_Mo_configure_L74 lpK _ _ _ _ _ _ _ _ hM hh
      · refine s_iff c54 ?_
        refine s_gR hM 20 14 rfl ?_
        refine s_gR hM 20 14 rfl ?_
        obtain ⟨v40, e41, hh⟩ := q_bind hh
        refine s_lI hM 20 rfl e41 ?_
        obtain ⟨v42, e43, hh⟩ := q_bind hh
        refine s_lI hM 20 rfl e43 ?_
        rcases q_ite hh with ⟨c53, hh⟩ | ⟨c53, hh⟩
        · refine s_ift c53 ?_
          obtain ⟨p44, e45, hh⟩ := q_bind hh
          refine s_call (ts_Mo_in hM e45) (fun x46 hM => ?_)
          rcases q_ite hh with ⟨c47, hh⟩ | ⟨c47, hh⟩
          · refine s_ift c47 ?_
            cases hh
            exact s_ret hM
          · refine s_iff c47 ?_
            cases hh
            exact s_ret hM
        · refine s_iff c53 ?_
          obtain ⟨p48, e49, hh⟩ := q_bind hh
          refine s_call (ts_Mo_in hM e49) (fun x50 hM => ?_)
          rcases q_ite hh with ⟨c52, hh⟩ | ⟨c52, hh⟩
          · refine s_ift c52 ?_
            cases hh
            exact s_ret hM
          · refine s_iff c52 ?_
            refine s_gI hM 11 rfl ?_
            rcases q_ite hh with ⟨c51, hh⟩ | ⟨c51, hh⟩
            · refine s_ift c51 ?_
              cases hh
              exact s_ret hM
            · refine s_iff c51 ?_
              exact ts_Mo_configure_L74 lpK _ _ _ _ _ _ _ _ hM hh
-- define(IIII)I
def jt_Mo_define (T : tT) (a1 : Int32) (a2 : Int32) (a3 : Int32) (a4 : Int32) : Option (tT × Int32) :=
  (jt_Mo_in T a1 0 5).bind fun p1 =>
  if p1.2 = 0 then
    some (p1.1, (-1))
  else
    (jt_Mo_in p1.1 a2 0 15).bind fun p4 =>
    if p4.2 = 0 then
      some (p4.1, (-1))
    else
      (jt_Mo_in p4.1 a3 0 3).bind fun p7 =>
      if p7.2 = 0 then
        some (p7.1, (-1))
      else
        (jt_Mo_in p7.1 a4 0 3).bind fun p10 =>
        if p10.2 = 0 then
          some (p10.1, (-1))
        else
          if (tf p10.1 2) = 10 then
            some (p10.1, (-1))
          else
            if (tf p10.1 11) ≤ 0 then
              (tw p10.1 10 10 (tf p10.1 2) a1).bind fun T13 =>
              (tw T13 11 10 (tf T13 2) a2).bind fun T16 =>
              (tw T16 12 10 (tf T16 2) a3).bind fun T19 =>
              (tw T19 13 10 (tf T19 2) a4).bind fun T22 =>
              (tpi T22 2 ((tf T22 2) + 1)).bind fun T25 =>
              some (T25, (tf T25 2) - 1)
            else
              some (p10.1, (-1))
theorem ts_Mo_define {m : Nat} {ad : Nat → Nat} {x : q_S} {T : tT} {a1 : Int32} {a2 : Int32} {a3 : Int32} {a4 : Int32} {p : tT × Int32} (hM : tM x m ad T) (hh : jt_Mo_define T a1 a2 a3 a4 = some p) : tS m ad x p (jf_Mo_define x m a1 a2 a3 a4) := by
  unfold jt_Mo_define at hh
  unfold jf_Mo_define
  obtain ⟨p1, e2, hh⟩ := q_bind hh
  refine s_call (ts_Mo_in hM e2) (fun x3 hM => ?_)
  rcases q_ite hh with ⟨c33, hh⟩ | ⟨c33, hh⟩
  · refine s_ift c33 ?_
    cases hh
    exact s_ret hM
  · refine s_iff c33 ?_
    obtain ⟨p4, e5, hh⟩ := q_bind hh
    refine s_call (ts_Mo_in hM e5) (fun x6 hM => ?_)
    rcases q_ite hh with ⟨c32, hh⟩ | ⟨c32, hh⟩
    · refine s_ift c32 ?_
      cases hh
      exact s_ret hM
    · refine s_iff c32 ?_
      obtain ⟨p7, e8, hh⟩ := q_bind hh
      refine s_call (ts_Mo_in hM e8) (fun x9 hM => ?_)
      rcases q_ite hh with ⟨c31, hh⟩ | ⟨c31, hh⟩
      · refine s_ift c31 ?_
        cases hh
        exact s_ret hM
      · refine s_iff c31 ?_
        obtain ⟨p10, e11, hh⟩ := q_bind hh
        refine s_call (ts_Mo_in hM e11) (fun x12 hM => ?_)
        rcases q_ite hh with ⟨c30, hh⟩ | ⟨c30, hh⟩
        · refine s_ift c30 ?_
          cases hh
          exact s_ret hM
        · refine s_iff c30 ?_
          refine s_gI hM 2 rfl ?_
          rcases q_ite hh with ⟨c29, hh⟩ | ⟨c29, hh⟩
          · refine s_ift c29 ?_
            cases hh
            exact s_ret hM
          · refine s_iff c29 ?_
            refine s_gI hM 11 rfl ?_
            rcases q_ite hh with ⟨c28, hh⟩ | ⟨c28, hh⟩
            · refine s_ift c28 ?_
              refine s_gR hM 10 3 rfl ?_
              refine s_gI hM 2 rfl ?_
              obtain ⟨T13, e14, hh⟩ := q_bind hh
              refine s_sI hM 10 rfl e14 (fun x15 hM => ?_)
              refine s_gR hM 11 4 rfl ?_
              refine s_gI hM 2 rfl ?_
              obtain ⟨T16, e17, hh⟩ := q_bind hh
              refine s_sI hM 11 rfl e17 (fun x18 hM => ?_)
              refine s_gR hM 12 5 rfl ?_
              refine s_gI hM 2 rfl ?_
              obtain ⟨T19, e20, hh⟩ := q_bind hh
              refine s_sI hM 12 rfl e20 (fun x21 hM => ?_)
              refine s_gR hM 13 6 rfl ?_
              refine s_gI hM 2 rfl ?_
              obtain ⟨T22, e23, hh⟩ := q_bind hh
              refine s_sI hM 13 rfl e23 (fun x24 hM => ?_)
              refine s_gI hM 2 rfl ?_
              obtain ⟨T25, e26, hh⟩ := q_bind hh
              refine s_pI hM 2 rfl e26 (fun x27 hM => ?_)
              refine s_gI hM 2 rfl ?_
              cases hh
              exact s_ret hM
            · refine s_iff c28 ?_
              cases hh
              exact s_ret hM
-- definition(I)I
def jt_Mo_definition (T : tT) (a1 : Int32) : Option (tT × Int32) :=
  (jt_Mo_live T a1).bind fun p1 =>
  if p1.2 = 0 then
    some (p1.1, (-1))
  else
    (tl p1.1 26 300 a1).bind fun v4 =>
    some (p1.1, v4)
theorem ts_Mo_definition {m : Nat} {ad : Nat → Nat} {x : q_S} {T : tT} {a1 : Int32} {p : tT × Int32} (hM : tM x m ad T) (hh : jt_Mo_definition T a1 = some p) : tS m ad x p (jf_Mo_definition x m a1) := by
  unfold jt_Mo_definition at hh
  unfold jf_Mo_definition
  obtain ⟨p1, e2, hh⟩ := q_bind hh
  refine s_av hM ?_
  refine s_call (ts_Mo_live hM e2) (fun x3 hM => ?_)
  rcases q_ite hh with ⟨c6, hh⟩ | ⟨c6, hh⟩
  · refine s_ift c6 ?_
    cases hh
    exact s_ret hM
  · refine s_iff c6 ?_
    refine s_gR hM 26 25 rfl ?_
    obtain ⟨v4, e5, hh⟩ := q_bind hh
    refine s_lI hM 26 rfl e5 ?_
    cases hh
    exact s_ret hM
-- contextOf(I)I
def jt_Mo_contextOf_B2 (rc : tT → Int32 → Int32 → Option (tT × Int32)) (T : tT) (l1 : Int32) (l2 : Int32) : Option (tT × Int32) :=
  if (tf T 16) ≤ l2 then
    some (T, (-1))
  else
    (tl T 101 30 l2).bind fun v1 =>
    if v1 = 0 then
      rc T l1 (l2 + 1)
    else
      (tl T 22 30 l2).bind fun v3 =>
      if v3 = l1 then
        some (T, l2)
      else
        rc T l1 (l2 + 1)
def jt_Mo_contextOf_L2 : Nat → tT → Int32 → Int32 → Option (tT × Int32)
  | 0, _, _, _ => none
  | n + 1, T, l1, l2 => jt_Mo_contextOf_B2 (jt_Mo_contextOf_L2 n) T l1 l2
theorem ts_Mo_contextOf_B2 {m : Nat} {ad : Nat → Nat} {p : tT × Int32} {rc : tT → Int32 → Int32 → Option (tT × Int32)} {rj : q_S → Nat → Int32 → Int32 → Option (q_S × Int32)} (hrc : ∀ (x : q_S) (T : tT) (l1 : Int32) (l2 : Int32), tM x m ad T → rc T l1 l2 = some p → tS m ad x p (rj x m l1 l2)) (x : q_S) (T : tT) (l1 : Int32) (l2 : Int32) (hM : tM x m ad T) (hh : jt_Mo_contextOf_B2 rc T l1 l2 = some p) : tS m ad x p (jf_Mo_contextOf_B2 rj x m l1 l2) := by
  unfold jt_Mo_contextOf_B2 at hh
  unfold jf_Mo_contextOf_B2
  refine s_gI hM 16 rfl ?_
  rcases q_ite hh with ⟨c7, hh⟩ | ⟨c7, hh⟩
  · refine s_ift c7 ?_
    cases hh
    exact s_ret hM
  · refine s_iff c7 ?_
    refine s_gR hM 101 19 rfl ?_
    obtain ⟨v1, e2, hh⟩ := q_bind hh
    refine s_lI hM 101 rfl e2 ?_
    rcases q_ite hh with ⟨c6, hh⟩ | ⟨c6, hh⟩
    · refine s_ift c6 ?_
      exact hrc _ _ _ _ hM hh
    · refine s_iff c6 ?_
      refine s_gR hM 22 17 rfl ?_
      obtain ⟨v3, e4, hh⟩ := q_bind hh
      refine s_lI hM 22 rfl e4 ?_
      rcases q_ite hh with ⟨c5, hh⟩ | ⟨c5, hh⟩
      · refine s_ift c5 ?_
        cases hh
        exact s_ret hM
      · refine s_iff c5 ?_
        exact hrc _ _ _ _ hM hh
theorem ts_Mo_contextOf_L2 {m : Nat} {ad : Nat → Nat} {p : tT × Int32} : ∀ (n : Nat) (x : q_S) (T : tT) (l1 : Int32) (l2 : Int32), tM x m ad T → jt_Mo_contextOf_L2 n T l1 l2 = some p → tS m ad x p (jf_Mo_contextOf_L2 n x m l1 l2)
  | 0, _, _, _, _, _, hh => nomatch hh
  | n + 1, x, T, l1, l2, hM, hh => ts_Mo_contextOf_B2 (ts_Mo_contextOf_L2 n) x T l1 l2 hM hh
def jt_Mo_contextOf (T : tT) (a1 : Int32) : Option (tT × Int32) :=
  jt_Mo_contextOf_L2 lpK T a1 0
theorem ts_Mo_contextOf {m : Nat} {ad : Nat → Nat} {x : q_S} {T : tT} {a1 : Int32} {p : tT × Int32} (hM : tM x m ad T) (hh : jt_Mo_contextOf T a1 = some p) : tS m ad x p (jf_Mo_contextOf x m a1) := by
  unfold jt_Mo_contextOf at hh
  unfold jf_Mo_contextOf
  exact ts_Mo_contextOf_L2 lpK _ _ _ _ hM hh
-- equal(II)Z
def jt_Mo_equal_B8 (rc : tT → Int32 → Int32 → Int32 → Option (tT × Int32)) (T : tT) (l3 : Int32) (l4 : Int32) (l5 : Int32) : Option (tT × Int32) :=
  if 4 ≤ l5 then
    some (T, 1)
  else
    if l3 < 0 then
      if 0 ≤ l3 then
        some (T, 0)
      else
        if 0 ≤ l4 then
          some (T, 0)
        else
          some (T, 1)
    else
      if 0 ≤ l4 then
        (tl T 18 8 l3).bind fun v3 =>
        (tl T 18 8 l4).bind fun v5 =>
        if v3 = v5 then
          (tl T 19 8 l3).bind fun v7 =>
          (tl T 19 8 l4).bind fun v9 =>
          if v7 = v9 then
            (tl T 20 8 l3).bind fun v11 =>
            (tl T 20 8 l4).bind fun v13 =>
            rc T v11 v13 (l5 + 1)
          else
            some (T, 0)
        else
          some (T, 0)
      else
        if 0 ≤ l3 then
          some (T, 0)
        else
          if 0 ≤ l4 then
            some (T, 0)
          else
            some (T, 1)
def jt_Mo_equal_L8 : Nat → tT → Int32 → Int32 → Int32 → Option (tT × Int32)
  | 0, _, _, _, _ => none
  | n + 1, T, l3, l4, l5 => jt_Mo_equal_B8 (jt_Mo_equal_L8 n) T l3 l4 l5
theorem ts_Mo_equal_B8 {m : Nat} {ad : Nat → Nat} {p : tT × Int32} {rc : tT → Int32 → Int32 → Int32 → Option (tT × Int32)} {rj : q_S → Nat → Int32 → Int32 → Int32 → Option (q_S × Int32)} (hrc : ∀ (x : q_S) (T : tT) (l3 : Int32) (l4 : Int32) (l5 : Int32), tM x m ad T → rc T l3 l4 l5 = some p → tS m ad x p (rj x m l3 l4 l5)) (x : q_S) (T : tT) (l3 : Int32) (l4 : Int32) (l5 : Int32) (hM : tM x m ad T) (hh : jt_Mo_equal_B8 rc T l3 l4 l5 = some p) : tS m ad x p (jf_Mo_equal_B8 rj x m l3 l4 l5) := by
  unfold jt_Mo_equal_B8 at hh
  unfold jf_Mo_equal_B8
  rcases q_ite hh with ⟨c21, hh⟩ | ⟨c21, hh⟩
  · refine s_ift c21 ?_
    cases hh
    exact s_ret hM
  · refine s_iff c21 ?_
    rcases q_ite hh with ⟨c20, hh⟩ | ⟨c20, hh⟩
    · refine s_ift c20 ?_
      rcases q_ite hh with ⟨c2, hh⟩ | ⟨c2, hh⟩
      · refine s_ift c2 ?_
        cases hh
        exact s_ret hM
      · refine s_iff c2 ?_
        rcases q_ite hh with ⟨c1, hh⟩ | ⟨c1, hh⟩
        · refine s_ift c1 ?_
          cases hh
          exact s_ret hM
        · refine s_iff c1 ?_
          cases hh
          exact s_ret hM
    · refine s_iff c20 ?_
      rcases q_ite hh with ⟨c19, hh⟩ | ⟨c19, hh⟩
      · refine s_ift c19 ?_
        refine s_gR hM 18 12 rfl ?_
        obtain ⟨v3, e4, hh⟩ := q_bind hh
        refine s_lI hM 18 rfl e4 ?_
        refine s_gR hM 18 12 rfl ?_
        obtain ⟨v5, e6, hh⟩ := q_bind hh
        refine s_lI hM 18 rfl e6 ?_
        rcases q_ite hh with ⟨c16, hh⟩ | ⟨c16, hh⟩
        · refine s_ift c16 ?_
          refine s_gR hM 19 13 rfl ?_
          obtain ⟨v7, e8, hh⟩ := q_bind hh
          refine s_lI hM 19 rfl e8 ?_
          refine s_gR hM 19 13 rfl ?_
          obtain ⟨v9, e10, hh⟩ := q_bind hh
          refine s_lI hM 19 rfl e10 ?_
          rcases q_ite hh with ⟨c15, hh⟩ | ⟨c15, hh⟩
          · refine s_ift c15 ?_
            refine s_gR hM 20 14 rfl ?_
            obtain ⟨v11, e12, hh⟩ := q_bind hh
            refine s_lI hM 20 rfl e12 ?_
            refine s_gR hM 20 14 rfl ?_
            obtain ⟨v13, e14, hh⟩ := q_bind hh
            refine s_lI hM 20 rfl e14 ?_
            exact hrc _ _ _ _ _ hM hh
          · refine s_iff c15 ?_
            cases hh
            exact s_ret hM
        · refine s_iff c16 ?_
          cases hh
          exact s_ret hM
      · refine s_iff c19 ?_
        rcases q_ite hh with ⟨c18, hh⟩ | ⟨c18, hh⟩
        · refine s_ift c18 ?_
          cases hh
          exact s_ret hM
        · refine s_iff c18 ?_
          rcases q_ite hh with ⟨c17, hh⟩ | ⟨c17, hh⟩
          · refine s_ift c17 ?_
            cases hh
            exact s_ret hM
          · refine s_iff c17 ?_
            cases hh
            exact s_ret hM
theorem ts_Mo_equal_L8 {m : Nat} {ad : Nat → Nat} {p : tT × Int32} : ∀ (n : Nat) (x : q_S) (T : tT) (l3 : Int32) (l4 : Int32) (l5 : Int32), tM x m ad T → jt_Mo_equal_L8 n T l3 l4 l5 = some p → tS m ad x p (jf_Mo_equal_L8 n x m l3 l4 l5)
  | 0, _, _, _, _, _, _, hh => nomatch hh
  | n + 1, x, T, l3, l4, l5, hM, hh => ts_Mo_equal_B8 (ts_Mo_equal_L8 n) x T l3 l4 l5 hM hh
def jt_Mo_equal (T : tT) (a1 : Int32) (a2 : Int32) : Option (tT × Int32) :=
  jt_Mo_equal_L8 lpK T a1 a2 0
theorem ts_Mo_equal {m : Nat} {ad : Nat → Nat} {x : q_S} {T : tT} {a1 : Int32} {a2 : Int32} {p : tT × Int32} (hM : tM x m ad T) (hh : jt_Mo_equal T a1 a2 = some p) : tS m ad x p (jf_Mo_equal x m a1 a2) := by
  unfold jt_Mo_equal at hh
  unfold jf_Mo_equal
  exact ts_Mo_equal_L8 lpK _ _ _ _ _ hM hh
-- key(I)I
def jt_Mo_key_B12 (rc : tT → Int32 → Int32 → Option (tT × Int32)) (T : tT) (l1 : Int32) (l2 : Int32) : Option (tT × Int32) :=
  if l1 ≤ l2 then
    some (T, l1)
  else
    (jt_Mo_equal T l2 l1).bind fun p4 =>
    if p4.2 = 0 then
      rc p4.1 l1 (l2 + 1)
    else
      some (p4.1, l2)
def jt_Mo_key_L12 : Nat → tT → Int32 → Int32 → Option (tT × Int32)
  | 0, _, _, _ => none
  | n + 1, T, l1, l2 => jt_Mo_key_B12 (jt_Mo_key_L12 n) T l1 l2
theorem ts_Mo_key_B12 {m : Nat} {ad : Nat → Nat} {p : tT × Int32} {rc : tT → Int32 → Int32 → Option (tT × Int32)} {rj : q_S → Nat → Int32 → Int32 → Option (q_S × Int32)} (hrc : ∀ (x : q_S) (T : tT) (l1 : Int32) (l2 : Int32), tM x m ad T → rc T l1 l2 = some p → tS m ad x p (rj x m l1 l2)) (x : q_S) (T : tT) (l1 : Int32) (l2 : Int32) (hM : tM x m ad T) (hh : jt_Mo_key_B12 rc T l1 l2 = some p) : tS m ad x p (jf_Mo_key_B12 rj x m l1 l2) := by
  unfold jt_Mo_key_B12 at hh
  unfold jf_Mo_key_B12
  rcases q_ite hh with ⟨c8, hh⟩ | ⟨c8, hh⟩
  · refine s_ift c8 ?_
    cases hh
    exact s_ret hM
  · refine s_iff c8 ?_
    obtain ⟨p4, e5, hh⟩ := q_bind hh
    refine s_av hM ?_
    refine s_call (ts_Mo_equal hM e5) (fun x6 hM => ?_)
    rcases q_ite hh with ⟨c7, hh⟩ | ⟨c7, hh⟩
    · refine s_ift c7 ?_
      exact hrc _ _ _ _ hM hh
    · refine s_iff c7 ?_
      cases hh
      exact s_ret hM
theorem ts_Mo_key_L12 {m : Nat} {ad : Nat → Nat} {p : tT × Int32} : ∀ (n : Nat) (x : q_S) (T : tT) (l1 : Int32) (l2 : Int32), tM x m ad T → jt_Mo_key_L12 n T l1 l2 = some p → tS m ad x p (jf_Mo_key_L12 n x m l1 l2)
  | 0, _, _, _, _, _, hh => nomatch hh
  | n + 1, x, T, l1, l2, hM, hh => ts_Mo_key_B12 (ts_Mo_key_L12 n) x T l1 l2 hM hh
def jt_Mo_key (T : tT) (a1 : Int32) : Option (tT × Int32) :=
  (jt_Mo_isConfiguration T a1).bind fun p1 =>
  if p1.2 = 0 then
    some (p1.1, (-1))
  else
    jt_Mo_key_L12 lpK p1.1 a1 0
theorem ts_Mo_key {m : Nat} {ad : Nat → Nat} {x : q_S} {T : tT} {a1 : Int32} {p : tT × Int32} (hM : tM x m ad T) (hh : jt_Mo_key T a1 = some p) : tS m ad x p (jf_Mo_key x m a1) := by
  unfold jt_Mo_key at hh
  unfold jf_Mo_key
  obtain ⟨p1, e2, hh⟩ := q_bind hh
  refine s_av hM ?_
  refine s_call (ts_Mo_isConfiguration hM e2) (fun x3 hM => ?_)
  rcases q_ite hh with ⟨c9, hh⟩ | ⟨c9, hh⟩
  · refine s_ift c9 ?_
    cases hh
    exact s_ret hM
  · refine s_iff c9 ?_
    exact ts_Mo_key_L12 lpK _ _ _ _ hM hh
-- cachedFor(I)I
def jt_Mo_cachedFor (T : tT) (a1 : Int32) : Option (tT × Int32) :=
  (jt_Mo_isConfiguration T a1).bind fun p1 =>
  if p1.2 = 0 then
    some (p1.1, (-1))
  else
    (jt_Mo_key p1.1 a1).bind fun p4 =>
    (jt_Mo_contextOf p4.1 p4.2).bind fun p7 =>
    some (p7.1, p7.2)
theorem ts_Mo_cachedFor {m : Nat} {ad : Nat → Nat} {x : q_S} {T : tT} {a1 : Int32} {p : tT × Int32} (hM : tM x m ad T) (hh : jt_Mo_cachedFor T a1 = some p) : tS m ad x p (jf_Mo_cachedFor x m a1) := by
  unfold jt_Mo_cachedFor at hh
  unfold jf_Mo_cachedFor
  obtain ⟨p1, e2, hh⟩ := q_bind hh
  refine s_av hM ?_
  refine s_call (ts_Mo_isConfiguration hM e2) (fun x3 hM => ?_)
  rcases q_ite hh with ⟨c10, hh⟩ | ⟨c10, hh⟩
  · refine s_ift c10 ?_
    cases hh
    exact s_ret hM
  · refine s_iff c10 ?_
    obtain ⟨p4, e5, hh⟩ := q_bind hh
    refine s_av hM ?_
    refine s_call (ts_Mo_key hM e5) (fun x6 hM => ?_)
    obtain ⟨p7, e8, hh⟩ := q_bind hh
    refine s_av hM ?_
    refine s_call (ts_Mo_contextOf hM e8) (fun x9 hM => ?_)
    cases hh
    exact s_ret hM
-- child(I)I
def jt_Mo_child_B7 (rc : tT → Int32 → Int32 → Option (tT × Int32)) (T : tT) (l1 : Int32) (l2 : Int32) : Option (tT × Int32) :=
  if l2 < 0 then
    some (T, (-1))
  else
    (tl T 101 30 l2).bind fun v1 =>
    if v1 = 0 then
      rc T l1 (l2 + (-1))
    else
      (tl T 23 30 l2).bind fun v3 =>
      if v3 = l1 then
        some (T, l2)
      else
        rc T l1 (l2 + (-1))
def jt_Mo_child_L7 : Nat → tT → Int32 → Int32 → Option (tT × Int32)
  | 0, _, _, _ => none
  | n + 1, T, l1, l2 => jt_Mo_child_B7 (jt_Mo_child_L7 n) T l1 l2
theorem ts_Mo_child_B7 {m : Nat} {ad : Nat → Nat} {p : tT × Int32} {rc : tT → Int32 → Int32 → Option (tT × Int32)} {rj : q_S → Nat → Int32 → Int32 → Option (q_S × Int32)} (hrc : ∀ (x : q_S) (T : tT) (l1 : Int32) (l2 : Int32), tM x m ad T → rc T l1 l2 = some p → tS m ad x p (rj x m l1 l2)) (x : q_S) (T : tT) (l1 : Int32) (l2 : Int32) (hM : tM x m ad T) (hh : jt_Mo_child_B7 rc T l1 l2 = some p) : tS m ad x p (jf_Mo_child_B7 rj x m l1 l2) := by
  unfold jt_Mo_child_B7 at hh
  unfold jf_Mo_child_B7
  rcases q_ite hh with ⟨c7, hh⟩ | ⟨c7, hh⟩
  · refine s_ift c7 ?_
    cases hh
    exact s_ret hM
  · refine s_iff c7 ?_
    refine s_gR hM 101 19 rfl ?_
    obtain ⟨v1, e2, hh⟩ := q_bind hh
    refine s_lI hM 101 rfl e2 ?_
    rcases q_ite hh with ⟨c6, hh⟩ | ⟨c6, hh⟩
    · refine s_ift c6 ?_
      exact hrc _ _ _ _ hM hh
    · refine s_iff c6 ?_
      refine s_gR hM 23 18 rfl ?_
      obtain ⟨v3, e4, hh⟩ := q_bind hh
      refine s_lI hM 23 rfl e4 ?_
      rcases q_ite hh with ⟨c5, hh⟩ | ⟨c5, hh⟩
      · refine s_ift c5 ?_
        cases hh
        exact s_ret hM
      · refine s_iff c5 ?_
        exact hrc _ _ _ _ hM hh
theorem ts_Mo_child_L7 {m : Nat} {ad : Nat → Nat} {p : tT × Int32} : ∀ (n : Nat) (x : q_S) (T : tT) (l1 : Int32) (l2 : Int32), tM x m ad T → jt_Mo_child_L7 n T l1 l2 = some p → tS m ad x p (jf_Mo_child_L7 n x m l1 l2)
  | 0, _, _, _, _, _, hh => nomatch hh
  | n + 1, x, T, l1, l2, hM, hh => ts_Mo_child_B7 (ts_Mo_child_L7 n) x T l1 l2 hM hh
def jt_Mo_child (T : tT) (a1 : Int32) : Option (tT × Int32) :=
  jt_Mo_child_L7 lpK T a1 ((tf T 16) - 1)
theorem ts_Mo_child {m : Nat} {ad : Nat → Nat} {x : q_S} {T : tT} {a1 : Int32} {p : tT × Int32} (hM : tM x m ad T) (hh : jt_Mo_child T a1 = some p) : tS m ad x p (jf_Mo_child x m a1) := by
  unfold jt_Mo_child at hh
  unfold jf_Mo_child
  refine s_gI hM 16 rfl ?_
  exact ts_Mo_child_L7 lpK _ _ _ _ hM hh
-- isMocked(II)Z
def jt_Mo_isMocked (T : tT) (a1 : Int32) (a2 : Int32) : Option (tT × Int32) :=
  (tl T 22 30 a1).bind fun v1 =>
  (tl T 19 8 v1).bind fun v3 =>
  if ((v3 >>> (a2 &&& 31)) &&& 1) = 1 then
    some (T, 1)
  else
    some (T, 0)
theorem ts_Mo_isMocked {m : Nat} {ad : Nat → Nat} {x : q_S} {T : tT} {a1 : Int32} {a2 : Int32} {p : tT × Int32} (hM : tM x m ad T) (hh : jt_Mo_isMocked T a1 a2 = some p) : tS m ad x p (jf_Mo_isMocked x m a1 a2) := by
  unfold jt_Mo_isMocked at hh
  unfold jf_Mo_isMocked
  refine s_gR hM 19 13 rfl ?_
  refine s_gR hM 22 17 rfl ?_
  obtain ⟨v1, e2, hh⟩ := q_bind hh
  refine s_lI hM 22 rfl e2 ?_
  obtain ⟨v3, e4, hh⟩ := q_bind hh
  refine s_lI hM 19 rfl e4 ?_
  rcases q_ite hh with ⟨c5, hh⟩ | ⟨c5, hh⟩
  · refine s_ift c5 ?_
    cases hh
    exact s_ret hM
  · refine s_iff c5 ?_
    cases hh
    exact s_ret hM
-- many(II)Z
def jt_Mo_many (T : tT) (a1 : Int32) (a2 : Int32) : Option (tT × Int32) :=
  (tl T 11 10 a2).bind fun v1 =>
  if (v1 &&& 4) = 0 then
    some (T, 0)
  else
    (jt_Mo_isMocked T a1 a2).bind fun p3 =>
    if p3.2 = 0 then
      some (p3.1, 1)
    else
      some (p3.1, 0)
theorem ts_Mo_many {m : Nat} {ad : Nat → Nat} {x : q_S} {T : tT} {a1 : Int32} {a2 : Int32} {p : tT × Int32} (hM : tM x m ad T) (hh : jt_Mo_many T a1 a2 = some p) : tS m ad x p (jf_Mo_many x m a1 a2) := by
  unfold jt_Mo_many at hh
  unfold jf_Mo_many
  refine s_gR hM 11 4 rfl ?_
  obtain ⟨v1, e2, hh⟩ := q_bind hh
  refine s_lI hM 11 rfl e2 ?_
  rcases q_ite hh with ⟨c7, hh⟩ | ⟨c7, hh⟩
  · refine s_ift c7 ?_
    cases hh
    exact s_ret hM
  · refine s_iff c7 ?_
    obtain ⟨p3, e4, hh⟩ := q_bind hh
    refine s_av hM ?_
    refine s_call (ts_Mo_isMocked hM e4) (fun x5 hM => ?_)
    rcases q_ite hh with ⟨c6, hh⟩ | ⟨c6, hh⟩
    · refine s_ift c6 ?_
      cases hh
      exact s_ret hM
    · refine s_iff c6 ?_
      cases hh
      exact s_ret hM
-- note(II)V
def jt_Mo_note (T : tT) (a1 : Int32) (a2 : Int32) : Option (tT × Unit) :=
  (tw T 35 32 ((tf T 38) - (tf T 38) / 32 * 32) (((64 : Int32) * a1) + a2)).bind fun T1 =>
  (tpi T1 38 ((tf T1 38) + 1)).bind fun T4 =>
  some (T4, ())
theorem ts_Mo_note {m : Nat} {ad : Nat → Nat} {x : q_S} {T : tT} {a1 : Int32} {a2 : Int32} {p : tT × Unit} (hM : tM x m ad T) (hh : jt_Mo_note T a1 a2 = some p) : tS m ad x p (jf_Mo_note x m a1 a2) := by
  unfold jt_Mo_note at hh
  unfold jf_Mo_note
  refine s_gR hM 35 39 rfl ?_
  refine s_gI hM 38 rfl ?_
  obtain ⟨T1, e2, hh⟩ := q_bind hh
  refine s_sI hM 35 rfl e2 (fun x3 hM => ?_)
  refine s_gI hM 38 rfl ?_
  obtain ⟨T4, e5, hh⟩ := q_bind hh
  refine s_pI hM 38 rfl e5 (fun x6 hM => ?_)
  cases hh
  exact s_ret hM
-- destroy(I)V
def jt_Mo_destroy_B7 (rc : tT → Int32 → Int32 → Option (tT × Unit)) (T : tT) (l1 : Int32) (l2 : Int32) : Option (tT × Unit) :=
  if l2 < 0 then
    some (T, ())
  else
    (tl T 25 300 l2).bind fun v1 =>
    if v1 = l1 then
      (tl T 103 300 l2).bind fun v3 =>
      if v3 = 0 then
        (tw T 103 300 l2 ((1 : Int32) &&& 1)).bind fun T5 =>
        (tl T5 26 300 l2).bind fun v8 =>
        (jt_Mo_many T5 l1 v8).bind fun p10 =>
        if p10.2 = 0 then
          (tl p10.1 26 300 l2).bind fun v13 =>
          (jt_Mo_note p10.1 4 v13).bind fun p15 =>
          rc p15.1 l1 (l2 + (-1))
        else
          rc p10.1 l1 (l2 + (-1))
      else
        rc T l1 (l2 + (-1))
    else
      rc T l1 (l2 + (-1))
def jt_Mo_destroy_L7 : Nat → tT → Int32 → Int32 → Option (tT × Unit)
  | 0, _, _, _ => none
  | n + 1, T, l1, l2 => jt_Mo_destroy_B7 (jt_Mo_destroy_L7 n) T l1 l2
theorem ts_Mo_destroy_B7 {m : Nat} {ad : Nat → Nat} {p : tT × Unit} {rc : tT → Int32 → Int32 → Option (tT × Unit)} {rj : q_S → Nat → Int32 → Int32 → Option (q_S × Unit)} (hrc : ∀ (x : q_S) (T : tT) (l1 : Int32) (l2 : Int32), tM x m ad T → rc T l1 l2 = some p → tS m ad x p (rj x m l1 l2)) (x : q_S) (T : tT) (l1 : Int32) (l2 : Int32) (hM : tM x m ad T) (hh : jt_Mo_destroy_B7 rc T l1 l2 = some p) : tS m ad x p (jf_Mo_destroy_B7 rj x m l1 l2) := by
  unfold jt_Mo_destroy_B7 at hh
  unfold jf_Mo_destroy_B7
  rcases q_ite hh with ⟨c21, hh⟩ | ⟨c21, hh⟩
  · refine s_ift c21 ?_
    cases hh
    exact s_ret hM
  · refine s_iff c21 ?_
    refine s_gR hM 25 24 rfl ?_
    obtain ⟨v1, e2, hh⟩ := q_bind hh
    refine s_lI hM 25 rfl e2 ?_
    rcases q_ite hh with ⟨c20, hh⟩ | ⟨c20, hh⟩
    · refine s_ift c20 ?_
      refine s_gR hM 103 27 rfl ?_
      obtain ⟨v3, e4, hh⟩ := q_bind hh
      refine s_lI hM 103 rfl e4 ?_
      rcases q_ite hh with ⟨c19, hh⟩ | ⟨c19, hh⟩
      · refine s_ift c19 ?_
        refine s_gR hM 103 27 rfl ?_
        obtain ⟨T5, e6, hh⟩ := q_bind hh
        refine s_sI hM 103 rfl e6 (fun x7 hM => ?_)
        refine s_gR hM 26 25 rfl ?_
        obtain ⟨v8, e9, hh⟩ := q_bind hh
        refine s_lI hM 26 rfl e9 ?_
        obtain ⟨p10, e11, hh⟩ := q_bind hh
        refine s_av hM ?_
        refine s_call (ts_Mo_many hM e11) (fun x12 hM => ?_)
        rcases q_ite hh with ⟨c18, hh⟩ | ⟨c18, hh⟩
        · refine s_ift c18 ?_
          refine s_gR hM 26 25 rfl ?_
          obtain ⟨v13, e14, hh⟩ := q_bind hh
          refine s_lI hM 26 rfl e14 ?_
          obtain ⟨p15, e16, hh⟩ := q_bind hh
          refine s_av hM ?_
          refine s_call (ts_Mo_note hM e16) (fun x17 hM => ?_)
          exact hrc _ _ _ _ hM hh
        · refine s_iff c18 ?_
          exact hrc _ _ _ _ hM hh
      · refine s_iff c19 ?_
        exact hrc _ _ _ _ hM hh
    · refine s_iff c20 ?_
      exact hrc _ _ _ _ hM hh
theorem ts_Mo_destroy_L7 {m : Nat} {ad : Nat → Nat} {p : tT × Unit} : ∀ (n : Nat) (x : q_S) (T : tT) (l1 : Int32) (l2 : Int32), tM x m ad T → jt_Mo_destroy_L7 n T l1 l2 = some p → tS m ad x p (jf_Mo_destroy_L7 n x m l1 l2)
  | 0, _, _, _, _, _, hh => nomatch hh
  | n + 1, x, T, l1, l2, hM, hh => ts_Mo_destroy_B7 (ts_Mo_destroy_L7 n) x T l1 l2 hM hh
def jt_Mo_destroy (T : tT) (a1 : Int32) : Option (tT × Unit) :=
  jt_Mo_destroy_L7 lpK T a1 ((tf T 23) - 1)
theorem ts_Mo_destroy {m : Nat} {ad : Nat → Nat} {x : q_S} {T : tT} {a1 : Int32} {p : tT × Unit} (hM : tM x m ad T) (hh : jt_Mo_destroy T a1 = some p) : tS m ad x p (jf_Mo_destroy x m a1) := by
  unfold jt_Mo_destroy at hh
  unfold jf_Mo_destroy
  refine s_gI hM 23 rfl ?_
  exact ts_Mo_destroy_L7 lpK _ _ _ _ hM hh
-- closeOne(I)V
def jt_Mo_closeOne (T : tT) (a1 : Int32) : Option (tT × Unit) :=
  (jt_Mo_destroy T a1).bind fun p1 =>
  (tw p1.1 101 30 a1 ((0 : Int32) &&& 1)).bind fun T4 =>
  (jt_Mo_note T4 5 a1).bind fun p7 =>
  some (p7.1, ())
theorem ts_Mo_closeOne {m : Nat} {ad : Nat → Nat} {x : q_S} {T : tT} {a1 : Int32} {p : tT × Unit} (hM : tM x m ad T) (hh : jt_Mo_closeOne T a1 = some p) : tS m ad x p (jf_Mo_closeOne x m a1) := by
  unfold jt_Mo_closeOne at hh
  unfold jf_Mo_closeOne
  obtain ⟨p1, e2, hh⟩ := q_bind hh
  refine s_av hM ?_
  refine s_call (ts_Mo_destroy hM e2) (fun x3 hM => ?_)
  refine s_gR hM 101 19 rfl ?_
  obtain ⟨T4, e5, hh⟩ := q_bind hh
  refine s_sI hM 101 rfl e5 (fun x6 hM => ?_)
  obtain ⟨p7, e8, hh⟩ := q_bind hh
  refine s_av hM ?_
  refine s_call (ts_Mo_note hM e8) (fun x9 hM => ?_)
  cases hh
  exact s_ret hM
-- close(I)I
def jt_Mo_close_B19 (kk : tT → Int32 → Int32 → Int32 → Int32 → Option (tT × Int32)) (rc : tT → Int32 → Int32 → Int32 → Int32 → Option (tT × Int32)) (T : tT) (l1 : Int32) (l2 : Int32) (l3 : Int32) (l4 : Int32) : Option (tT × Int32) :=
  if l4 < 0 then
    kk T l1 l2 l3 l4
  else
    (jt_Mo_closeOne T l4).bind fun p10 =>
    (jt_Mo_child p10.1 l3).bind fun p13 =>
    rc p13.1 l1 (l2 + 1) l3 p13.2
def jt_Mo_close_L19 (kk : tT → Int32 → Int32 → Int32 → Int32 → Option (tT × Int32)) : Nat → tT → Int32 → Int32 → Int32 → Int32 → Option (tT × Int32)
  | 0, _, _, _, _, _ => none
  | n + 1, T, l1, l2, l3, l4 => jt_Mo_close_B19 kk (jt_Mo_close_L19 kk n) T l1 l2 l3 l4
theorem ts_Mo_close_B19 {m : Nat} {ad : Nat → Nat} {p : tT × Int32} {kk : tT → Int32 → Int32 → Int32 → Int32 → Option (tT × Int32)} {kj : q_S → Nat → Int32 → Int32 → Int32 → Int32 → Option (q_S × Int32)} (hkk : ∀ (x : q_S) (T : tT) (l1 : Int32) (l2 : Int32) (l3 : Int32) (l4 : Int32), tM x m ad T → kk T l1 l2 l3 l4 = some p → tS m ad x p (kj x m l1 l2 l3 l4)) {rc : tT → Int32 → Int32 → Int32 → Int32 → Option (tT × Int32)} {rj : q_S → Nat → Int32 → Int32 → Int32 → Int32 → Option (q_S × Int32)} (hrc : ∀ (x : q_S) (T : tT) (l1 : Int32) (l2 : Int32) (l3 : Int32) (l4 : Int32), tM x m ad T → rc T l1 l2 l3 l4 = some p → tS m ad x p (rj x m l1 l2 l3 l4)) (x : q_S) (T : tT) (l1 : Int32) (l2 : Int32) (l3 : Int32) (l4 : Int32) (hM : tM x m ad T) (hh : jt_Mo_close_B19 kk rc T l1 l2 l3 l4 = some p) : tS m ad x p (jf_Mo_close_B19 kj rj x m l1 l2 l3 l4) := by
  unfold jt_Mo_close_B19 at hh
  unfold jf_Mo_close_B19
  rcases q_ite hh with ⟨c16, hh⟩ | ⟨c16, hh⟩
  · refine s_ift c16 ?_
    exact hkk _ _ _ _ _ _ hM hh
  · refine s_iff c16 ?_
    obtain ⟨p10, e11, hh⟩ := q_bind hh
    refine s_av hM ?_
    refine s_call (ts_Mo_closeOne hM e11) (fun x12 hM => ?_)
    obtain ⟨p13, e14, hh⟩ := q_bind hh
    refine s_av hM ?_
    refine s_call (ts_Mo_child hM e14) (fun x15 hM => ?_)
    exact hrc _ _ _ _ _ _ hM hh
theorem ts_Mo_close_L19 {m : Nat} {ad : Nat → Nat} {p : tT × Int32} {kk : tT → Int32 → Int32 → Int32 → Int32 → Option (tT × Int32)} {kj : q_S → Nat → Int32 → Int32 → Int32 → Int32 → Option (q_S × Int32)} (hkk : ∀ (x : q_S) (T : tT) (l1 : Int32) (l2 : Int32) (l3 : Int32) (l4 : Int32), tM x m ad T → kk T l1 l2 l3 l4 = some p → tS m ad x p (kj x m l1 l2 l3 l4)) : ∀ (n : Nat) (x : q_S) (T : tT) (l1 : Int32) (l2 : Int32) (l3 : Int32) (l4 : Int32), tM x m ad T → jt_Mo_close_L19 kk n T l1 l2 l3 l4 = some p → tS m ad x p (jf_Mo_close_L19 kj n x m l1 l2 l3 l4)
  | 0, _, _, _, _, _, _, _, hh => nomatch hh
  | n + 1, x, T, l1, l2, l3, l4, hM, hh => ts_Mo_close_B19 hkk (ts_Mo_close_L19 hkk n) x T l1 l2 l3 l4 hM hh
def jt_Mo_close_B8 (rc : tT → Int32 → Int32 → Int32 → Option (tT × Int32)) (T : tT) (l1 : Int32) (l2 : Int32) (l3 : Int32) : Option (tT × Int32) :=
  if l3 < 0 then
    (jt_Mo_closeOne T l1).bind fun p4 =>
    some (p4.1, l2)
  else
    (jt_Mo_child T l3).bind fun p7 =>
    jt_Mo_close_L19 (fun y17 l1_17 l2_17 l3_17 l4_17 =>
      (jt_Mo_closeOne y17 l3_17).bind fun p18 =>
      (jt_Mo_child p18.1 l1_17).bind fun p21 =>
      rc p21.1 l1_17 (l2_17 + 1) p21.2
    ) lpK p7.1 l1 l2 l3 p7.2
def jt_Mo_close_L8 : Nat → tT → Int32 → Int32 → Int32 → Option (tT × Int32)
  | 0, _, _, _, _ => none
  | n + 1, T, l1, l2, l3 => jt_Mo_close_B8 (jt_Mo_close_L8 n) T l1 l2 l3
theorem ts_Mo_close_B8 {m : Nat} {ad : Nat → Nat} {p : tT × Int32} {rc : tT → Int32 → Int32 → Int32 → Option (tT × Int32)} {rj : q_S → Nat → Int32 → Int32 → Int32 → Option (q_S × Int32)} (hrc : ∀ (x : q_S) (T : tT) (l1 : Int32) (l2 : Int32) (l3 : Int32), tM x m ad T → rc T l1 l2 l3 = some p → tS m ad x p (rj x m l1 l2 l3)) (x : q_S) (T : tT) (l1 : Int32) (l2 : Int32) (l3 : Int32) (hM : tM x m ad T) (hh : jt_Mo_close_B8 rc T l1 l2 l3 = some p) : tS m ad x p (jf_Mo_close_B8 rj x m l1 l2 l3) := by
  unfold jt_Mo_close_B8 at hh
  unfold jf_Mo_close_B8
  rcases q_ite hh with ⟨c25, hh⟩ | ⟨c25, hh⟩
  · refine s_ift c25 ?_
    obtain ⟨p4, e5, hh⟩ := q_bind hh
    refine s_av hM ?_
    refine s_call (ts_Mo_closeOne hM e5) (fun x6 hM => ?_)
    cases hh
    exact s_ret hM
  · refine s_iff c25 ?_
    obtain ⟨p7, e8, hh⟩ := q_bind hh
    refine s_av hM ?_
    refine s_call (ts_Mo_child hM e8) (fun x9 hM => ?_)
    refine ts_Mo_close_L19 (fun x24 y17 l1_17 l2_17 l3_17 l4_17 hM hh => ?_) lpK _ _ _ _ _ _ hM hh
    obtain ⟨p18, e19, hh⟩ := q_bind hh
    refine s_av hM ?_
    refine s_call (ts_Mo_closeOne hM e19) (fun x20 hM => ?_)
    obtain ⟨p21, e22, hh⟩ := q_bind hh
    refine s_av hM ?_
    refine s_call (ts_Mo_child hM e22) (fun x23 hM => ?_)
    exact hrc _ _ _ _ _ hM hh
theorem ts_Mo_close_L8 {m : Nat} {ad : Nat → Nat} {p : tT × Int32} : ∀ (n : Nat) (x : q_S) (T : tT) (l1 : Int32) (l2 : Int32) (l3 : Int32), tM x m ad T → jt_Mo_close_L8 n T l1 l2 l3 = some p → tS m ad x p (jf_Mo_close_L8 n x m l1 l2 l3)
  | 0, _, _, _, _, _, _, hh => nomatch hh
  | n + 1, x, T, l1, l2, l3, hM, hh => ts_Mo_close_B8 (ts_Mo_close_L8 n) x T l1 l2 l3 hM hh
def jt_Mo_close (T : tT) (a1 : Int32) : Option (tT × Int32) :=
  (jt_Mo_child T a1).bind fun p1 =>
  jt_Mo_close_L8 lpK p1.1 a1 1 p1.2
theorem ts_Mo_close {m : Nat} {ad : Nat → Nat} {x : q_S} {T : tT} {a1 : Int32} {p : tT × Int32} (hM : tM x m ad T) (hh : jt_Mo_close T a1 = some p) : tS m ad x p (jf_Mo_close x m a1) := by
  unfold jt_Mo_close at hh
  unfold jf_Mo_close
  obtain ⟨p1, e2, hh⟩ := q_bind hh
  refine s_av hM ?_
  refine s_call (ts_Mo_child hM e2) (fun x3 hM => ?_)
  exact ts_Mo_close_L8 lpK _ _ _ _ _ hM hh
-- dirty(I)I
def jt_Mo_dirty (T : tT) (a1 : Int32) : Option (tT × Int32) :=
  (jt_Mo_isConfiguration T a1).bind fun p1 =>
  if p1.2 = 0 then
    some (p1.1, (-1))
  else
    (jt_Mo_cachedFor p1.1 a1).bind fun p4 =>
    if 0 ≤ p4.2 then
      (jt_Mo_close p4.1 p4.2).bind fun p7 =>
      some (p7.1, p7.2)
    else
      some (p4.1, 0)
theorem ts_Mo_dirty {m : Nat} {ad : Nat → Nat} {x : q_S} {T : tT} {a1 : Int32} {p : tT × Int32} (hM : tM x m ad T) (hh : jt_Mo_dirty T a1 = some p) : tS m ad x p (jf_Mo_dirty x m a1) := by
  unfold jt_Mo_dirty at hh
  unfold jf_Mo_dirty
  obtain ⟨p1, e2, hh⟩ := q_bind hh
  refine s_av hM ?_
  refine s_call (ts_Mo_isConfiguration hM e2) (fun x3 hM => ?_)
  rcases q_ite hh with ⟨c11, hh⟩ | ⟨c11, hh⟩
  · refine s_ift c11 ?_
    cases hh
    exact s_ret hM
  · refine s_iff c11 ?_
    obtain ⟨p4, e5, hh⟩ := q_bind hh
    refine s_av hM ?_
    refine s_call (ts_Mo_cachedFor hM e5) (fun x6 hM => ?_)
    rcases q_ite hh with ⟨c10, hh⟩ | ⟨c10, hh⟩
    · refine s_ift c10 ?_
      obtain ⟨p7, e8, hh⟩ := q_bind hh
      refine s_av hM ?_
      refine s_call (ts_Mo_close hM e8) (fun x9 hM => ?_)
      cases hh
      exact s_ret hM
    · refine s_iff c10 ?_
      cases hh
      exact s_ret hM
-- event(I)I
def jt_Mo_event (T : tT) (a1 : Int32) : Option (tT × Int32) :=
  (jt_Mo_in T a1 0 31).bind fun p1 =>
  if p1.2 = 0 then
    some (p1.1, (-1))
  else
    if a1 < (tf p1.1 38) then
      (tl p1.1 35 32 ((((tf p1.1 38) - 1) - a1) - (((tf p1.1 38) - 1) - a1) / 32 * 32)).bind fun v4 =>
      some (p1.1, v4)
    else
      some (p1.1, (-1))
theorem ts_Mo_event {m : Nat} {ad : Nat → Nat} {x : q_S} {T : tT} {a1 : Int32} {p : tT × Int32} (hM : tM x m ad T) (hh : jt_Mo_event T a1 = some p) : tS m ad x p (jf_Mo_event x m a1) := by
  unfold jt_Mo_event at hh
  unfold jf_Mo_event
  obtain ⟨p1, e2, hh⟩ := q_bind hh
  refine s_call (ts_Mo_in hM e2) (fun x3 hM => ?_)
  rcases q_ite hh with ⟨c7, hh⟩ | ⟨c7, hh⟩
  · refine s_ift c7 ?_
    cases hh
    exact s_ret hM
  · refine s_iff c7 ?_
    refine s_gI hM 38 rfl ?_
    rcases q_ite hh with ⟨c6, hh⟩ | ⟨c6, hh⟩
    · refine s_ift c6 ?_
      refine s_gR hM 35 39 rfl ?_
      refine s_gI hM 38 rfl ?_
      obtain ⟨v4, e5, hh⟩ := q_bind hh
      refine s_lI hM 35 rfl e5 ?_
      cases hh
      exact s_ret hM
    · refine s_iff c6 ?_
      cases hh
      exact s_ret hM
-- events()I
def jt_Mo_events (T : tT)  : Option (tT × Int32) :=
  some (T, tf T 38)
theorem ts_Mo_events {m : Nat} {ad : Nat → Nat} {x : q_S} {T : tT}  {p : tT × Int32} (hM : tM x m ad T) (hh : jt_Mo_events T  = some p) : tS m ad x p (jf_Mo_events x m ) := by
  unfold jt_Mo_events at hh
  unfold jf_Mo_events
  refine s_gI hM 38 rfl ?_
  cases hh
  exact s_ret hM
-- is(II)Z
def jt_Mo_is (T : tT) (a1 : Int32) (a2 : Int32) : Option (tT × Int32) :=
  if a1 = a2 then
    some (T, 1)
  else
    (tl T 100 36 (((6 : Int32) * a1) + a2)).bind fun v1 =>
    if v1 = 0 then
      some (T, 0)
    else
      some (T, 1)
theorem ts_Mo_is {m : Nat} {ad : Nat → Nat} {x : q_S} {T : tT} {a1 : Int32} {a2 : Int32} {p : tT × Int32} (hM : tM x m ad T) (hh : jt_Mo_is T a1 a2 = some p) : tS m ad x p (jf_Mo_is x m a1 a2) := by
  unfold jt_Mo_is at hh
  unfold jf_Mo_is
  rcases q_ite hh with ⟨c4, hh⟩ | ⟨c4, hh⟩
  · refine s_ift c4 ?_
    cases hh
    exact s_ret hM
  · refine s_iff c4 ?_
    refine s_gR hM 100 1 rfl ?_
    obtain ⟨v1, e2, hh⟩ := q_bind hh
    refine s_lI hM 100 rfl e2 ?_
    rcases q_ite hh with ⟨c3, hh⟩ | ⟨c3, hh⟩
    · refine s_ift c3 ?_
      cases hh
      exact s_ret hM
    · refine s_iff c3 ?_
      cases hh
      exact s_ret hM
-- extend(II)Z
def jt_Mo_extend_B56 (kk : tT → Int32 → Int32 → Int32 → Int32 → Option (tT × Int32)) (rc : tT → Int32 → Int32 → Int32 → Int32 → Option (tT × Int32)) (T : tT) (l1 : Int32) (l2 : Int32) (l3 : Int32) (l4 : Int32) : Option (tT × Int32) :=
  if 6 ≤ l4 then
    kk T l1 l2 l3 l4
  else
    (jt_Mo_is T l3 l1).bind fun p13 =>
    if p13.2 = 0 then
      (tl p13.1 100 36 (((6 : Int32) * l3) + l4)).bind fun v16 =>
      if v16 = 0 then
        (tw p13.1 100 36 (((6 : Int32) * l3) + l4) ((0 : Int32) &&& 1)).bind fun T21 =>
        rc T21 l1 l2 l3 (l4 + 1)
      else
        (tw p13.1 100 36 (((6 : Int32) * l3) + l4) ((1 : Int32) &&& 1)).bind fun T18 =>
        rc T18 l1 l2 l3 (l4 + 1)
    else
      (jt_Mo_is p13.1 l2 l4).bind fun p25 =>
      if p25.2 = 0 then
        (tl p25.1 100 36 (((6 : Int32) * l3) + l4)).bind fun v28 =>
        if v28 = 0 then
          (tw p25.1 100 36 (((6 : Int32) * l3) + l4) ((0 : Int32) &&& 1)).bind fun T33 =>
          rc T33 l1 l2 l3 (l4 + 1)
        else
          (tw p25.1 100 36 (((6 : Int32) * l3) + l4) ((1 : Int32) &&& 1)).bind fun T30 =>
          rc T30 l1 l2 l3 (l4 + 1)
      else
        (tl p25.1 100 36 (((6 : Int32) * l3) + l4)).bind fun v37 =>
        if v37 = 0 then
          (tw p25.1 100 36 (((6 : Int32) * l3) + l4) ((1 : Int32) &&& 1)).bind fun T42 =>
          rc T42 l1 l2 l3 (l4 + 1)
        else
          (tw p25.1 100 36 (((6 : Int32) * l3) + l4) ((1 : Int32) &&& 1)).bind fun T39 =>
          rc T39 l1 l2 l3 (l4 + 1)
def jt_Mo_extend_L56 (kk : tT → Int32 → Int32 → Int32 → Int32 → Option (tT × Int32)) : Nat → tT → Int32 → Int32 → Int32 → Int32 → Option (tT × Int32)
  | 0, _, _, _, _, _ => none
  | n + 1, T, l1, l2, l3, l4 => jt_Mo_extend_B56 kk (jt_Mo_extend_L56 kk n) T l1 l2 l3 l4
theorem ts_Mo_extend_B56 {m : Nat} {ad : Nat → Nat} {p : tT × Int32} {kk : tT → Int32 → Int32 → Int32 → Int32 → Option (tT × Int32)} {kj : q_S → Nat → Int32 → Int32 → Int32 → Int32 → Option (q_S × Int32)} (hkk : ∀ (x : q_S) (T : tT) (l1 : Int32) (l2 : Int32) (l3 : Int32) (l4 : Int32), tM x m ad T → kk T l1 l2 l3 l4 = some p → tS m ad x p (kj x m l1 l2 l3 l4)) {rc : tT → Int32 → Int32 → Int32 → Int32 → Option (tT × Int32)} {rj : q_S → Nat → Int32 → Int32 → Int32 → Int32 → Option (q_S × Int32)} (hrc : ∀ (x : q_S) (T : tT) (l1 : Int32) (l2 : Int32) (l3 : Int32) (l4 : Int32), tM x m ad T → rc T l1 l2 l3 l4 = some p → tS m ad x p (rj x m l1 l2 l3 l4)) (x : q_S) (T : tT) (l1 : Int32) (l2 : Int32) (l3 : Int32) (l4 : Int32) (hM : tM x m ad T) (hh : jt_Mo_extend_B56 kk rc T l1 l2 l3 l4 = some p) : tS m ad x p (jf_Mo_extend_B56 kj rj x m l1 l2 l3 l4) := by
  unfold jt_Mo_extend_B56 at hh
  unfold jf_Mo_extend_B56
  rcases q_ite hh with ⟨c48, hh⟩ | ⟨c48, hh⟩
  · refine s_ift c48 ?_
    exact hkk _ _ _ _ _ _ hM hh
  · refine s_iff c48 ?_
    obtain ⟨p13, e14, hh⟩ := q_bind hh
    refine s_av hM ?_
    refine s_call (ts_Mo_is hM e14) (fun x15 hM => ?_)
    rcases q_ite hh with ⟨c47, hh⟩ | ⟨c47, hh⟩
    · refine s_ift c47 ?_
      refine s_gR hM 100 1 rfl ?_
      refine s_gR hM 100 1 rfl ?_
      obtain ⟨v16, e17, hh⟩ := q_bind hh
      refine s_lI hM 100 rfl e17 ?_
      rcases q_ite hh with ⟨c24, hh⟩ | ⟨c24, hh⟩
      · refine s_ift c24 ?_
        obtain ⟨T21, e22, hh⟩ := q_bind hh
        refine s_sI hM 100 rfl e22 (fun x23 hM => ?_)
        exact hrc _ _ _ _ _ _ hM hh
      · refine s_iff c24 ?_
        obtain ⟨T18, e19, hh⟩ := q_bind hh
        refine s_sI hM 100 rfl e19 (fun x20 hM => ?_)
        exact hrc _ _ _ _ _ _ hM hh
    · refine s_iff c47 ?_
      obtain ⟨p25, e26, hh⟩ := q_bind hh
      refine s_av hM ?_
      refine s_call (ts_Mo_is hM e26) (fun x27 hM => ?_)
      rcases q_ite hh with ⟨c46, hh⟩ | ⟨c46, hh⟩
      · refine s_ift c46 ?_
        refine s_gR hM 100 1 rfl ?_
        refine s_gR hM 100 1 rfl ?_
        obtain ⟨v28, e29, hh⟩ := q_bind hh
        refine s_lI hM 100 rfl e29 ?_
        rcases q_ite hh with ⟨c36, hh⟩ | ⟨c36, hh⟩
        · refine s_ift c36 ?_
          obtain ⟨T33, e34, hh⟩ := q_bind hh
          refine s_sI hM 100 rfl e34 (fun x35 hM => ?_)
          exact hrc _ _ _ _ _ _ hM hh
        · refine s_iff c36 ?_
          obtain ⟨T30, e31, hh⟩ := q_bind hh
          refine s_sI hM 100 rfl e31 (fun x32 hM => ?_)
          exact hrc _ _ _ _ _ _ hM hh
      · refine s_iff c46 ?_
        refine s_gR hM 100 1 rfl ?_
        refine s_gR hM 100 1 rfl ?_
        obtain ⟨v37, e38, hh⟩ := q_bind hh
        refine s_lI hM 100 rfl e38 ?_
        rcases q_ite hh with ⟨c45, hh⟩ | ⟨c45, hh⟩
        · refine s_ift c45 ?_
          obtain ⟨T42, e43, hh⟩ := q_bind hh
          refine s_sI hM 100 rfl e43 (fun x44 hM => ?_)
          exact hrc _ _ _ _ _ _ hM hh
        · refine s_iff c45 ?_
          obtain ⟨T39, e40, hh⟩ := q_bind hh
          refine s_sI hM 100 rfl e40 (fun x41 hM => ?_)
          exact hrc _ _ _ _ _ _ hM hh
theorem ts_Mo_extend_L56 {m : Nat} {ad : Nat → Nat} {p : tT × Int32} {kk : tT → Int32 → Int32 → Int32 → Int32 → Option (tT × Int32)} {kj : q_S → Nat → Int32 → Int32 → Int32 → Int32 → Option (q_S × Int32)} (hkk : ∀ (x : q_S) (T : tT) (l1 : Int32) (l2 : Int32) (l3 : Int32) (l4 : Int32), tM x m ad T → kk T l1 l2 l3 l4 = some p → tS m ad x p (kj x m l1 l2 l3 l4)) : ∀ (n : Nat) (x : q_S) (T : tT) (l1 : Int32) (l2 : Int32) (l3 : Int32) (l4 : Int32), tM x m ad T → jt_Mo_extend_L56 kk n T l1 l2 l3 l4 = some p → tS m ad x p (jf_Mo_extend_L56 kj n x m l1 l2 l3 l4)
  | 0, _, _, _, _, _, _, _, hh => nomatch hh
  | n + 1, x, T, l1, l2, l3, l4, hM, hh => ts_Mo_extend_B56 hkk (ts_Mo_extend_L56 hkk n) x T l1 l2 l3 l4 hM hh
def jt_Mo_extend_B47 (rc : tT → Int32 → Int32 → Int32 → Option (tT × Int32)) (T : tT) (l1 : Int32) (l2 : Int32) (l3 : Int32) : Option (tT × Int32) :=
  if 6 ≤ l3 then
    some (T, 1)
  else
    jt_Mo_extend_L56 (fun y49 l1_49 l2_49 l3_49 l4_49 =>
      rc y49 l1_49 l2_49 (l3_49 + 1)
    ) lpK T l1 l2 l3 0
def jt_Mo_extend_L47 : Nat → tT → Int32 → Int32 → Int32 → Option (tT × Int32)
  | 0, _, _, _, _ => none
  | n + 1, T, l1, l2, l3 => jt_Mo_extend_B47 (jt_Mo_extend_L47 n) T l1 l2 l3
theorem ts_Mo_extend_B47 {m : Nat} {ad : Nat → Nat} {p : tT × Int32} {rc : tT → Int32 → Int32 → Int32 → Option (tT × Int32)} {rj : q_S → Nat → Int32 → Int32 → Int32 → Option (q_S × Int32)} (hrc : ∀ (x : q_S) (T : tT) (l1 : Int32) (l2 : Int32) (l3 : Int32), tM x m ad T → rc T l1 l2 l3 = some p → tS m ad x p (rj x m l1 l2 l3)) (x : q_S) (T : tT) (l1 : Int32) (l2 : Int32) (l3 : Int32) (hM : tM x m ad T) (hh : jt_Mo_extend_B47 rc T l1 l2 l3 = some p) : tS m ad x p (jf_Mo_extend_B47 rj x m l1 l2 l3) := by
  unfold jt_Mo_extend_B47 at hh
  unfold jf_Mo_extend_B47
  rcases q_ite hh with ⟨c51, hh⟩ | ⟨c51, hh⟩
  · refine s_ift c51 ?_
    cases hh
    exact s_ret hM
  · refine s_iff c51 ?_
    refine ts_Mo_extend_L56 (fun x50 y49 l1_49 l2_49 l3_49 l4_49 hM hh => ?_) lpK _ _ _ _ _ _ hM hh
    exact hrc _ _ _ _ _ hM hh
theorem ts_Mo_extend_L47 {m : Nat} {ad : Nat → Nat} {p : tT × Int32} : ∀ (n : Nat) (x : q_S) (T : tT) (l1 : Int32) (l2 : Int32) (l3 : Int32), tM x m ad T → jt_Mo_extend_L47 n T l1 l2 l3 = some p → tS m ad x p (jf_Mo_extend_L47 n x m l1 l2 l3)
  | 0, _, _, _, _, _, _, hh => nomatch hh
  | n + 1, x, T, l1, l2, l3, hM, hh => ts_Mo_extend_B47 (ts_Mo_extend_L47 n) x T l1 l2 l3 hM hh
def jt_Mo_extend (T : tT) (a1 : Int32) (a2 : Int32) : Option (tT × Int32) :=
  (jt_Mo_in T a1 0 5).bind fun p1 =>
  if p1.2 = 0 then
    some (p1.1, 0)
  else
    (jt_Mo_in p1.1 a2 0 5).bind fun p4 =>
    if p4.2 = 0 then
      some (p4.1, 0)
    else
      (jt_Mo_is p4.1 a1 a2).bind fun p7 =>
      if p7.2 = 0 then
        (jt_Mo_is p7.1 a2 a1).bind fun p10 =>
        if p10.2 = 0 then
          if (tf p10.1 11) ≤ 0 then
            jt_Mo_extend_L47 lpK p10.1 a1 a2 0
          else
            some (p10.1, 0)
        else
          some (p10.1, 0)
      else
        some (p7.1, 0)
theorem ts_Mo_extend {m : Nat} {ad : Nat → Nat} {x : q_S} {T : tT} {a1 : Int32} {a2 : Int32} {p : tT × Int32} (hM : tM x m ad T) (hh : jt_Mo_extend T a1 a2 = some p) : tS m ad x p (jf_Mo_extend x m a1 a2) := by
  unfold jt_Mo_extend at hh
  unfold jf_Mo_extend
  obtain ⟨p1, e2, hh⟩ := q_bind hh
  refine s_call (ts_Mo_in hM e2) (fun x3 hM => ?_)
  rcases q_ite hh with ⟨c56, hh⟩ | ⟨c56, hh⟩
  · refine s_ift c56 ?_
    cases hh
    exact s_ret hM
  · refine s_iff c56 ?_
    obtain ⟨p4, e5, hh⟩ := q_bind hh
    refine s_call (ts_Mo_in hM e5) (fun x6 hM => ?_)
    rcases q_ite hh with ⟨c55, hh⟩ | ⟨c55, hh⟩
    · refine s_ift c55 ?_
      cases hh
      exact s_ret hM
    · refine s_iff c55 ?_
      obtain ⟨p7, e8, hh⟩ := q_bind hh
      refine s_av hM ?_
      refine s_call (ts_Mo_is hM e8) (fun x9 hM => ?_)
      rcases q_ite hh with ⟨c54, hh⟩ | ⟨c54, hh⟩
      · refine s_ift c54 ?_
        obtain ⟨p10, e11, hh⟩ := q_bind hh
        refine s_av hM ?_
        refine s_call (ts_Mo_is hM e11) (fun x12 hM => ?_)
        rcases q_ite hh with ⟨c53, hh⟩ | ⟨c53, hh⟩
        · refine s_ift c53 ?_
          refine s_gI hM 11 rfl ?_
          rcases q_ite hh with ⟨c52, hh⟩ | ⟨c52, hh⟩
          · refine s_ift c52 ?_
            exact ts_Mo_extend_L47 lpK _ _ _ _ _ hM hh
          · refine s_iff c52 ?_
            cases hh
            exact s_ret hM
        · refine s_iff c53 ?_
          cases hh
          exact s_ret hM
      · refine s_iff c54 ?_
        cases hh
        exact s_ret hM
-- failures(I)I
def jt_Mo_failures (T : tT) (a1 : Int32) : Option (tT × Int32) :=
  (jt_Mo_isConfiguration T a1).bind fun p1 =>
  if p1.2 = 0 then
    some (p1.1, (-1))
  else
    (jt_Mo_key p1.1 a1).bind fun p4 =>
    (tl p4.1 21 8 p4.2).bind fun v7 =>
    some (p4.1, v7)
theorem ts_Mo_failures {m : Nat} {ad : Nat → Nat} {x : q_S} {T : tT} {a1 : Int32} {p : tT × Int32} (hM : tM x m ad T) (hh : jt_Mo_failures T a1 = some p) : tS m ad x p (jf_Mo_failures x m a1) := by
  unfold jt_Mo_failures at hh
  unfold jf_Mo_failures
  obtain ⟨p1, e2, hh⟩ := q_bind hh
  refine s_av hM ?_
  refine s_call (ts_Mo_isConfiguration hM e2) (fun x3 hM => ?_)
  rcases q_ite hh with ⟨c9, hh⟩ | ⟨c9, hh⟩
  · refine s_ift c9 ?_
    cases hh
    exact s_ret hM
  · refine s_iff c9 ?_
    refine s_gR hM 21 15 rfl ?_
    obtain ⟨p4, e5, hh⟩ := q_bind hh
    refine s_av hM ?_
    refine s_call (ts_Mo_key hM e5) (fun x6 hM => ?_)
    obtain ⟨v7, e8, hh⟩ := q_bind hh
    refine s_lI hM 21 rfl e8 ?_
    cases hh
    exact s_ret hM
-- asked(III)Z
def jt_Mo_asked (T : tT) (a0 : Int32) (a1 : Int32) (a2 : Int32) : Option (tT × Int32) :=
  (jt_Mo_in T a0 0 5).bind fun p1 =>
  if p1.2 = 0 then
    some (p1.1, 0)
  else
    (jt_Mo_in p1.1 a1 0 3).bind fun p4 =>
    if p4.2 = 0 then
      some (p4.1, 0)
    else
      (jt_Mo_in p4.1 a2 (-1) 9).bind fun p7 =>
      if p7.2 = 0 then
        some (p7.1, 0)
      else
        some (p7.1, 1)
theorem ts_Mo_asked {m : Nat} {ad : Nat → Nat} {x : q_S} {T : tT} {a0 : Int32} {a1 : Int32} {a2 : Int32} {p : tT × Int32} (hM : tM x m ad T) (hh : jt_Mo_asked T a0 a1 a2 = some p) : tS m ad x p (jf_Mo_asked x a0 a1 a2) := by
  unfold jt_Mo_asked at hh
  unfold jf_Mo_asked
  obtain ⟨p1, e2, hh⟩ := q_bind hh
  refine s_call (ts_Mo_in hM e2) (fun x3 hM => ?_)
  rcases q_ite hh with ⟨c12, hh⟩ | ⟨c12, hh⟩
  · refine s_ift c12 ?_
    cases hh
    exact s_ret hM
  · refine s_iff c12 ?_
    obtain ⟨p4, e5, hh⟩ := q_bind hh
    refine s_call (ts_Mo_in hM e5) (fun x6 hM => ?_)
    rcases q_ite hh with ⟨c11, hh⟩ | ⟨c11, hh⟩
    · refine s_ift c11 ?_
      cases hh
      exact s_ret hM
    · refine s_iff c11 ?_
      obtain ⟨p7, e8, hh⟩ := q_bind hh
      refine s_call (ts_Mo_in hM e8) (fun x9 hM => ?_)
      rcases q_ite hh with ⟨c10, hh⟩ | ⟨c10, hh⟩
      · refine s_ift c10 ?_
        cases hh
        exact s_ret hM
      · refine s_iff c10 ?_
        cases hh
        exact s_ret hM
-- isIn(II)Z
def jt_Mo_isIn (T : tT) (a1 : Int32) (a2 : Int32) : Option (tT × Int32) :=
  (tl T 22 30 a1).bind fun v1 =>
  (tl T 18 8 v1).bind fun v3 =>
  if ((v3 >>> (a2 &&& 31)) &&& 1) = 1 then
    some (T, 1)
  else
    some (T, 0)
theorem ts_Mo_isIn {m : Nat} {ad : Nat → Nat} {x : q_S} {T : tT} {a1 : Int32} {a2 : Int32} {p : tT × Int32} (hM : tM x m ad T) (hh : jt_Mo_isIn T a1 a2 = some p) : tS m ad x p (jf_Mo_isIn x m a1 a2) := by
  unfold jt_Mo_isIn at hh
  unfold jf_Mo_isIn
  refine s_gR hM 18 12 rfl ?_
  refine s_gR hM 22 17 rfl ?_
  obtain ⟨v1, e2, hh⟩ := q_bind hh
  refine s_lI hM 22 rfl e2 ?_
  obtain ⟨v3, e4, hh⟩ := q_bind hh
  refine s_lI hM 18 rfl e4 ?_
  rcases q_ite hh with ⟨c5, hh⟩ | ⟨c5, hh⟩
  · refine s_ift c5 ?_
    cases hh
    exact s_ret hM
  · refine s_iff c5 ?_
    cases hh
    exact s_ret hM
-- find(IIII)I
def jt_Mo_find_B35 (kk : tT → Int32 → Int32 → Int32 → Int32 → Int32 → Int32 → Int32 → Int32 → Int32 → Int32 → Int32 → Option (tT × Int32)) (rc : tT → Int32 → Int32 → Int32 → Int32 → Int32 → Int32 → Int32 → Int32 → Int32 → Int32 → Int32 → Option (tT × Int32)) (T : tT) (l2 : Int32) (l3 : Int32) (l4 : Int32) (l5 : Int32) (l6 : Int32) (l7 : Int32) (l8 : Int32) (l9 : Int32) (l10 : Int32) (l11 : Int32) (l12 : Int32) : Option (tT × Int32) :=
  if (tf T 2) ≤ l12 then
    kk T l2 l3 l4 l5 l6 l7 l8 l9 l10 l11 l12
  else
    (jt_Mo_isIn T l5 l12).bind fun p1 =>
    if p1.2 = 0 then
      rc p1.1 l2 l3 l4 l5 l6 l7 l8 l9 l10 l11 (l12 + 1)
    else
      (tl p1.1 10 10 l12).bind fun v4 =>
      (jt_Mo_is p1.1 v4 l2).bind fun p6 =>
      if p6.2 = 0 then
        rc p6.1 l2 l3 l4 l5 l6 l7 l8 l9 l10 l11 (l12 + 1)
      else
        if l3 = 0 then
          if l11 = 0 then
            if l12 = l4 then
              (tl p6.1 11 10 l12).bind fun v15 =>
              if (v15 &&& 1) = 0 then
                rc p6.1 l2 l3 l4 l5 l6 (l7 + 1) l12 l9 l10 1 (l12 + 1)
              else
                rc p6.1 l2 l3 l4 l5 l6 (l7 + 1) l12 (l9 + 1) l12 1 (l12 + 1)
            else
              (tl p6.1 11 10 l12).bind fun v12 =>
              if (v12 &&& 1) = 0 then
                rc p6.1 l2 l3 l4 l5 l6 (l7 + 1) l12 l9 l10 0 (l12 + 1)
              else
                rc p6.1 l2 l3 l4 l5 l6 (l7 + 1) l12 (l9 + 1) l12 0 (l12 + 1)
          else
            (tl p6.1 11 10 l12).bind fun v9 =>
            if (v9 &&& 1) = 0 then
              rc p6.1 l2 l3 l4 l5 l6 (l7 + 1) l12 l9 l10 1 (l12 + 1)
            else
              rc p6.1 l2 l3 l4 l5 l6 (l7 + 1) l12 (l9 + 1) l12 1 (l12 + 1)
        else
          (tl p6.1 12 10 l12).bind fun v20 =>
          if v20 = l3 then
            if l11 = 0 then
              if l12 = l4 then
                (tl p6.1 11 10 l12).bind fun v28 =>
                if (v28 &&& 1) = 0 then
                  rc p6.1 l2 l3 l4 l5 l6 (l7 + 1) l12 l9 l10 1 (l12 + 1)
                else
                  rc p6.1 l2 l3 l4 l5 l6 (l7 + 1) l12 (l9 + 1) l12 1 (l12 + 1)
              else
                (tl p6.1 11 10 l12).bind fun v25 =>
                if (v25 &&& 1) = 0 then
                  rc p6.1 l2 l3 l4 l5 l6 (l7 + 1) l12 l9 l10 0 (l12 + 1)
                else
                  rc p6.1 l2 l3 l4 l5 l6 (l7 + 1) l12 (l9 + 1) l12 0 (l12 + 1)
            else
              (tl p6.1 11 10 l12).bind fun v22 =>
              if (v22 &&& 1) = 0 then
                rc p6.1 l2 l3 l4 l5 l6 (l7 + 1) l12 l9 l10 1 (l12 + 1)
              else
                rc p6.1 l2 l3 l4 l5 l6 (l7 + 1) l12 (l9 + 1) l12 1 (l12 + 1)
          else
            rc p6.1 l2 l3 l4 l5 l6 l7 l8 l9 l10 l11 (l12 + 1)
def jt_Mo_find_L35 (kk : tT → Int32 → Int32 → Int32 → Int32 → Int32 → Int32 → Int32 → Int32 → Int32 → Int32 → Int32 → Option (tT × Int32)) : Nat → tT → Int32 → Int32 → Int32 → Int32 → Int32 → Int32 → Int32 → Int32 → Int32 → Int32 → Int32 → Option (tT × Int32)
  | 0, _, _, _, _, _, _, _, _, _, _, _, _ => none
  | n + 1, T, l2, l3, l4, l5, l6, l7, l8, l9, l10, l11, l12 => jt_Mo_find_B35 kk (jt_Mo_find_L35 kk n) T l2 l3 l4 l5 l6 l7 l8 l9 l10 l11 l12
theorem ts_Mo_find_B35 {m : Nat} {ad : Nat → Nat} {p : tT × Int32} {kk : tT → Int32 → Int32 → Int32 → Int32 → Int32 → Int32 → Int32 → Int32 → Int32 → Int32 → Int32 → Option (tT × Int32)} {kj : q_S → Nat → Int32 → Int32 → Int32 → Int32 → Int32 → Int32 → Int32 → Int32 → Int32 → Int32 → Int32 → Option (q_S × Int32)} (hkk : ∀ (x : q_S) (T : tT) (l2 : Int32) (l3 : Int32) (l4 : Int32) (l5 : Int32) (l6 : Int32) (l7 : Int32) (l8 : Int32) (l9 : Int32) (l10 : Int32) (l11 : Int32) (l12 : Int32), tM x m ad T → kk T l2 l3 l4 l5 l6 l7 l8 l9 l10 l11 l12 = some p → tS m ad x p (kj x m l2 l3 l4 l5 l6 l7 l8 l9 l10 l11 l12)) {rc : tT → Int32 → Int32 → Int32 → Int32 → Int32 → Int32 → Int32 → Int32 → Int32 → Int32 → Int32 → Option (tT × Int32)} {rj : q_S → Nat → Int32 → Int32 → Int32 → Int32 → Int32 → Int32 → Int32 → Int32 → Int32 → Int32 → Int32 → Option (q_S × Int32)} (hrc : ∀ (x : q_S) (T : tT) (l2 : Int32) (l3 : Int32) (l4 : Int32) (l5 : Int32) (l6 : Int32) (l7 : Int32) (l8 : Int32) (l9 : Int32) (l10 : Int32) (l11 : Int32) (l12 : Int32), tM x m ad T → rc T l2 l3 l4 l5 l6 l7 l8 l9 l10 l11 l12 = some p → tS m ad x p (rj x m l2 l3 l4 l5 l6 l7 l8 l9 l10 l11 l12)) (x : q_S) (T : tT) (l2 : Int32) (l3 : Int32) (l4 : Int32) (l5 : Int32) (l6 : Int32) (l7 : Int32) (l8 : Int32) (l9 : Int32) (l10 : Int32) (l11 : Int32) (l12 : Int32) (hM : tM x m ad T) (hh : jt_Mo_find_B35 kk rc T l2 l3 l4 l5 l6 l7 l8 l9 l10 l11 l12 = some p) : tS m ad x p (jf_Mo_find_B35 kj rj x m l2 l3 l4 l5 l6 l7 l8 l9 l10 l11 l12) := by
  unfold jt_Mo_find_B35 at hh
  unfold jf_Mo_find_B35
  refine s_gI hM 2 rfl ?_
  rcases q_ite hh with ⟨c37, hh⟩ | ⟨c37, hh⟩
  · refine s_ift c37 ?_
    exact hkk _ _ _ _ _ _ _ _ _ _ _ _ _ hM hh
  · refine s_iff c37 ?_
    obtain ⟨p1, e2, hh⟩ := q_bind hh
    refine s_av hM ?_
    refine s_call (ts_Mo_isIn hM e2) (fun x3 hM => ?_)
    rcases q_ite hh with ⟨c36, hh⟩ | ⟨c36, hh⟩
    · refine s_ift c36 ?_
      exact hrc _ _ _ _ _ _ _ _ _ _ _ _ _ hM hh
    · refine s_iff c36 ?_
      refine s_gR hM 10 3 rfl ?_
      obtain ⟨v4, e5, hh⟩ := q_bind hh
      refine s_lI hM 10 rfl e5 ?_
      obtain ⟨p6, e7, hh⟩ := q_bind hh
      refine s_av hM ?_
      refine s_call (ts_Mo_is hM e7) (fun x8 hM => ?_)
      rcases q_ite hh with ⟨c35, hh⟩ | ⟨c35, hh⟩
      · refine s_ift c35 ?_
        exact hrc _ _ _ _ _ _ _ _ _ _ _ _ _ hM hh
      · refine s_iff c35 ?_
        rcases q_ite hh with ⟨c34, hh⟩ | ⟨c34, hh⟩
        · refine s_ift c34 ?_
          rcases q_ite hh with ⟨c19, hh⟩ | ⟨c19, hh⟩
          · refine s_ift c19 ?_
            rcases q_ite hh with ⟨c18, hh⟩ | ⟨c18, hh⟩
            · refine s_ift c18 ?_
              refine s_gR hM 11 4 rfl ?_
              obtain ⟨v15, e16, hh⟩ := q_bind hh
              refine s_lI hM 11 rfl e16 ?_
              rcases q_ite hh with ⟨c17, hh⟩ | ⟨c17, hh⟩
              · refine s_ift c17 ?_
                exact hrc _ _ _ _ _ _ _ _ _ _ _ _ _ hM hh
              · refine s_iff c17 ?_
                exact hrc _ _ _ _ _ _ _ _ _ _ _ _ _ hM hh
            · refine s_iff c18 ?_
              refine s_gR hM 11 4 rfl ?_
              obtain ⟨v12, e13, hh⟩ := q_bind hh
              refine s_lI hM 11 rfl e13 ?_
              rcases q_ite hh with ⟨c14, hh⟩ | ⟨c14, hh⟩
              · refine s_ift c14 ?_
                exact hrc _ _ _ _ _ _ _ _ _ _ _ _ _ hM hh
              · refine s_iff c14 ?_
                exact hrc _ _ _ _ _ _ _ _ _ _ _ _ _ hM hh
          · refine s_iff c19 ?_
            refine s_gR hM 11 4 rfl ?_
            obtain ⟨v9, e10, hh⟩ := q_bind hh
            refine s_lI hM 11 rfl e10 ?_
            rcases q_ite hh with ⟨c11, hh⟩ | ⟨c11, hh⟩
            · refine s_ift c11 ?_
              exact hrc _ _ _ _ _ _ _ _ _ _ _ _ _ hM hh
            · refine s_iff c11 ?_
              exact hrc _ _ _ _ _ _ _ _ _ _ _ _ _ hM hh
        · refine s_iff c34 ?_
          refine s_gR hM 12 5 rfl ?_
          obtain ⟨v20, e21, hh⟩ := q_bind hh
          refine s_lI hM 12 rfl e21 ?_
          rcases q_ite hh with ⟨c33, hh⟩ | ⟨c33, hh⟩
          · refine s_ift c33 ?_
            rcases q_ite hh with ⟨c32, hh⟩ | ⟨c32, hh⟩
            · refine s_ift c32 ?_
              rcases q_ite hh with ⟨c31, hh⟩ | ⟨c31, hh⟩
              · refine s_ift c31 ?_
                refine s_gR hM 11 4 rfl ?_
                obtain ⟨v28, e29, hh⟩ := q_bind hh
                refine s_lI hM 11 rfl e29 ?_
                rcases q_ite hh with ⟨c30, hh⟩ | ⟨c30, hh⟩
                · refine s_ift c30 ?_
                  exact hrc _ _ _ _ _ _ _ _ _ _ _ _ _ hM hh
                · refine s_iff c30 ?_
                  exact hrc _ _ _ _ _ _ _ _ _ _ _ _ _ hM hh
              · refine s_iff c31 ?_
                refine s_gR hM 11 4 rfl ?_
                obtain ⟨v25, e26, hh⟩ := q_bind hh
                refine s_lI hM 11 rfl e26 ?_
                rcases q_ite hh with ⟨c27, hh⟩ | ⟨c27, hh⟩
                · refine s_ift c27 ?_
                  exact hrc _ _ _ _ _ _ _ _ _ _ _ _ _ hM hh
                · refine s_iff c27 ?_
                  exact hrc _ _ _ _ _ _ _ _ _ _ _ _ _ hM hh
            · refine s_iff c32 ?_
              refine s_gR hM 11 4 rfl ?_
              obtain ⟨v22, e23, hh⟩ := q_bind hh
              refine s_lI hM 11 rfl e23 ?_
              rcases q_ite hh with ⟨c24, hh⟩ | ⟨c24, hh⟩
              · refine s_ift c24 ?_
                exact hrc _ _ _ _ _ _ _ _ _ _ _ _ _ hM hh
              · refine s_iff c24 ?_
                exact hrc _ _ _ _ _ _ _ _ _ _ _ _ _ hM hh
          · refine s_iff c33 ?_
            exact hrc _ _ _ _ _ _ _ _ _ _ _ _ _ hM hh
theorem ts_Mo_find_L35 {m : Nat} {ad : Nat → Nat} {p : tT × Int32} {kk : tT → Int32 → Int32 → Int32 → Int32 → Int32 → Int32 → Int32 → Int32 → Int32 → Int32 → Int32 → Option (tT × Int32)} {kj : q_S → Nat → Int32 → Int32 → Int32 → Int32 → Int32 → Int32 → Int32 → Int32 → Int32 → Int32 → Int32 → Option (q_S × Int32)} (hkk : ∀ (x : q_S) (T : tT) (l2 : Int32) (l3 : Int32) (l4 : Int32) (l5 : Int32) (l6 : Int32) (l7 : Int32) (l8 : Int32) (l9 : Int32) (l10 : Int32) (l11 : Int32) (l12 : Int32), tM x m ad T → kk T l2 l3 l4 l5 l6 l7 l8 l9 l10 l11 l12 = some p → tS m ad x p (kj x m l2 l3 l4 l5 l6 l7 l8 l9 l10 l11 l12)) : ∀ (n : Nat) (x : q_S) (T : tT) (l2 : Int32) (l3 : Int32) (l4 : Int32) (l5 : Int32) (l6 : Int32) (l7 : Int32) (l8 : Int32) (l9 : Int32) (l10 : Int32) (l11 : Int32) (l12 : Int32), tM x m ad T → jt_Mo_find_L35 kk n T l2 l3 l4 l5 l6 l7 l8 l9 l10 l11 l12 = some p → tS m ad x p (jf_Mo_find_L35 kj n x m l2 l3 l4 l5 l6 l7 l8 l9 l10 l11 l12)
  | 0, _, _, _, _, _, _, _, _, _, _, _, _, _, _, hh => nomatch hh
  | n + 1, x, T, l2, l3, l4, l5, l6, l7, l8, l9, l10, l11, l12, hM, hh => ts_Mo_find_B35 hkk (ts_Mo_find_L35 hkk n) x T l2 l3 l4 l5 l6 l7 l8 l9 l10 l11 l12 hM hh
def jt_Mo_find_B6 (rc : tT → Int32 → Int32 → Int32 → Int32 → Int32 → Option (tT × Int32)) (T : tT) (l2 : Int32) (l3 : Int32) (l4 : Int32) (l5 : Int32) (l6 : Int32) : Option (tT × Int32) :=
  if 4 ≤ l6 then
    some (T, (-3))
  else
    if l5 < 0 then
      some (T, (-3))
    else
      jt_Mo_find_L35 (fun y38 l2_38 l3_38 l4_38 l5_38 l6_38 l7_38 l8_38 l9_38 l10_38 l11_38 l12_38 =>
        (tpi y38 37 l5_38).bind fun T39 =>
        if l7_38 = 1 then
          some (T39, l8_38)
        else
          if l7_38 ≤ 1 then
            (tl T39 23 30 l5_38).bind fun v42 =>
            rc T39 l2_38 l3_38 l4_38 v42 (l6_38 + 1)
          else
            if l9_38 = 1 then
              some (T39, l10_38)
            else
              if l9_38 = 0 then
                if l11_38 = 0 then
                  some (T39, (-4))
                else
                  some (T39, l4_38)
              else
                some (T39, (-4))
      ) lpK T l2 l3 l4 l5 l6 0 (-1) 0 (-1) 0 0
def jt_Mo_find_L6 : Nat → tT → Int32 → Int32 → Int32 → Int32 → Int32 → Option (tT × Int32)
  | 0, _, _, _, _, _, _ => none
  | n + 1, T, l2, l3, l4, l5, l6 => jt_Mo_find_B6 (jt_Mo_find_L6 n) T l2 l3 l4 l5 l6
theorem ts_Mo_find_B6 {m : Nat} {ad : Nat → Nat} {p : tT × Int32} {rc : tT → Int32 → Int32 → Int32 → Int32 → Int32 → Option (tT × Int32)} {rj : q_S → Nat → Int32 → Int32 → Int32 → Int32 → Int32 → Option (q_S × Int32)} (hrc : ∀ (x : q_S) (T : tT) (l2 : Int32) (l3 : Int32) (l4 : Int32) (l5 : Int32) (l6 : Int32), tM x m ad T → rc T l2 l3 l4 l5 l6 = some p → tS m ad x p (rj x m l2 l3 l4 l5 l6)) (x : q_S) (T : tT) (l2 : Int32) (l3 : Int32) (l4 : Int32) (l5 : Int32) (l6 : Int32) (hM : tM x m ad T) (hh : jt_Mo_find_B6 rc T l2 l3 l4 l5 l6 = some p) : tS m ad x p (jf_Mo_find_B6 rj x m l2 l3 l4 l5 l6) := by
  unfold jt_Mo_find_B6 at hh
  unfold jf_Mo_find_B6
  rcases q_ite hh with ⟨c51, hh⟩ | ⟨c51, hh⟩
  · refine s_ift c51 ?_
    cases hh
    exact s_ret hM
  · refine s_iff c51 ?_
    rcases q_ite hh with ⟨c50, hh⟩ | ⟨c50, hh⟩
    · refine s_ift c50 ?_
      cases hh
      exact s_ret hM
    · refine s_iff c50 ?_
      refine ts_Mo_find_L35 (fun x49 y38 l2_38 l3_38 l4_38 l5_38 l6_38 l7_38 l8_38 l9_38 l10_38 l11_38 l12_38 hM hh => ?_) lpK _ _ _ _ _ _ _ _ _ _ _ _ _ hM hh
      obtain ⟨T39, e40, hh⟩ := q_bind hh
      refine s_pI hM 37 rfl e40 (fun x41 hM => ?_)
      rcases q_ite hh with ⟨c48, hh⟩ | ⟨c48, hh⟩
      · refine s_ift c48 ?_
        cases hh
        exact s_ret hM
      · refine s_iff c48 ?_
        rcases q_ite hh with ⟨c47, hh⟩ | ⟨c47, hh⟩
        · refine s_ift c47 ?_
          refine s_gR hM 23 18 rfl ?_
          obtain ⟨v42, e43, hh⟩ := q_bind hh
          refine s_lI hM 23 rfl e43 ?_
          exact hrc _ _ _ _ _ _ _ hM hh
        · refine s_iff c47 ?_
          rcases q_ite hh with ⟨c46, hh⟩ | ⟨c46, hh⟩
          · refine s_ift c46 ?_
            cases hh
            exact s_ret hM
          · refine s_iff c46 ?_
            rcases q_ite hh with ⟨c45, hh⟩ | ⟨c45, hh⟩
            · refine s_ift c45 ?_
              rcases q_ite hh with ⟨c44, hh⟩ | ⟨c44, hh⟩
              · refine s_ift c44 ?_
                cases hh
                exact s_ret hM
              · refine s_iff c44 ?_
                cases hh
                exact s_ret hM
            · refine s_iff c45 ?_
              cases hh
              exact s_ret hM
theorem ts_Mo_find_L6 {m : Nat} {ad : Nat → Nat} {p : tT × Int32} : ∀ (n : Nat) (x : q_S) (T : tT) (l2 : Int32) (l3 : Int32) (l4 : Int32) (l5 : Int32) (l6 : Int32), tM x m ad T → jt_Mo_find_L6 n T l2 l3 l4 l5 l6 = some p → tS m ad x p (jf_Mo_find_L6 n x m l2 l3 l4 l5 l6)
  | 0, _, _, _, _, _, _, _, _, hh => nomatch hh
  | n + 1, x, T, l2, l3, l4, l5, l6, hM, hh => ts_Mo_find_B6 (ts_Mo_find_L6 n) x T l2 l3 l4 l5 l6 hM hh
def jt_Mo_find (T : tT) (a1 : Int32) (a2 : Int32) (a3 : Int32) (a4 : Int32) : Option (tT × Int32) :=
  jt_Mo_find_L6 lpK T a2 a3 a4 a1 0
theorem ts_Mo_find {m : Nat} {ad : Nat → Nat} {x : q_S} {T : tT} {a1 : Int32} {a2 : Int32} {a3 : Int32} {a4 : Int32} {p : tT × Int32} (hM : tM x m ad T) (hh : jt_Mo_find T a1 a2 a3 a4 = some p) : tS m ad x p (jf_Mo_find x m a1 a2 a3 a4) := by
  unfold jt_Mo_find at hh
  unfold jf_Mo_find
  exact ts_Mo_find_L6 lpK _ _ _ _ _ _ _ hM hh
-- make(III)I
def jt_Mo_make_B54 (rc : tT → Int32 → Int32 → Int32 → Option (tT × Int32)) (T : tT) (l2 : Int32) (l3 : Int32) (l4 : Int32) : Option (tT × Int32) :=
  if 3 ≤ l4 then
    (tpi T 23 ((tf T 23) + 1)).bind fun T10 =>
    (jt_Mo_note T10 1 l2).bind fun p13 =>
    some (p13.1, (tf p13.1 23) - 1)
  else
    if l3 < 0 then
      (tw T 27 900 (((3 : Int32) * (tf T 23)) + l4) (-1)).bind fun T16 =>
      rc T16 l2 l3 (l4 + 1)
    else
      (tl T 14 10 l2).bind fun v19 =>
      if v19 ≤ l4 then
        (tw T 27 900 (((3 : Int32) * (tf T 23)) + l4) (-1)).bind fun T21 =>
        rc T21 l2 l3 (l4 + 1)
      else
        (tl T 34 96 (((3 : Int32) * l3) + l4)).bind fun v24 =>
        (tw T 27 900 (((3 : Int32) * (tf T 23)) + l4) v24).bind fun T26 =>
        rc T26 l2 l3 (l4 + 1)
def jt_Mo_make_L54 : Nat → tT → Int32 → Int32 → Int32 → Option (tT × Int32)
  | 0, _, _, _, _ => none
  | n + 1, T, l2, l3, l4 => jt_Mo_make_B54 (jt_Mo_make_L54 n) T l2 l3 l4
theorem ts_Mo_make_B54 {m : Nat} {ad : Nat → Nat} {p : tT × Int32} {rc : tT → Int32 → Int32 → Int32 → Option (tT × Int32)} {rj : q_S → Nat → Int32 → Int32 → Int32 → Option (q_S × Int32)} (hrc : ∀ (x : q_S) (T : tT) (l2 : Int32) (l3 : Int32) (l4 : Int32), tM x m ad T → rc T l2 l3 l4 = some p → tS m ad x p (rj x m l2 l3 l4)) (x : q_S) (T : tT) (l2 : Int32) (l3 : Int32) (l4 : Int32) (hM : tM x m ad T) (hh : jt_Mo_make_B54 rc T l2 l3 l4 = some p) : tS m ad x p (jf_Mo_make_B54 rj x m l2 l3 l4) := by
  unfold jt_Mo_make_B54 at hh
  unfold jf_Mo_make_B54
  rcases q_ite hh with ⟨c31, hh⟩ | ⟨c31, hh⟩
  · refine s_ift c31 ?_
    refine s_gI hM 23 rfl ?_
    obtain ⟨T10, e11, hh⟩ := q_bind hh
    refine s_pI hM 23 rfl e11 (fun x12 hM => ?_)
    obtain ⟨p13, e14, hh⟩ := q_bind hh
    refine s_av hM ?_
    refine s_call (ts_Mo_note hM e14) (fun x15 hM => ?_)
    refine s_gI hM 23 rfl ?_
    cases hh
    exact s_ret hM
  · refine s_iff c31 ?_
    refine s_gR hM 27 28 rfl ?_
    refine s_gI hM 23 rfl ?_
    rcases q_ite hh with ⟨c30, hh⟩ | ⟨c30, hh⟩
    · refine s_ift c30 ?_
      obtain ⟨T16, e17, hh⟩ := q_bind hh
      refine s_sI hM 27 rfl e17 (fun x18 hM => ?_)
      exact hrc _ _ _ _ _ hM hh
    · refine s_iff c30 ?_
      refine s_gR hM 14 7 rfl ?_
      obtain ⟨v19, e20, hh⟩ := q_bind hh
      refine s_lI hM 14 rfl e20 ?_
      rcases q_ite hh with ⟨c29, hh⟩ | ⟨c29, hh⟩
      · refine s_ift c29 ?_
        obtain ⟨T21, e22, hh⟩ := q_bind hh
        refine s_sI hM 27 rfl e22 (fun x23 hM => ?_)
        exact hrc _ _ _ _ _ hM hh
      · refine s_iff c29 ?_
        refine s_gR hM 34 36 rfl ?_
        obtain ⟨v24, e25, hh⟩ := q_bind hh
        refine s_lI hM 34 rfl e25 ?_
        obtain ⟨T26, e27, hh⟩ := q_bind hh
        refine s_sI hM 27 rfl e27 (fun x28 hM => ?_)
        exact hrc _ _ _ _ _ hM hh
theorem ts_Mo_make_L54 {m : Nat} {ad : Nat → Nat} {p : tT × Int32} : ∀ (n : Nat) (x : q_S) (T : tT) (l2 : Int32) (l3 : Int32) (l4 : Int32), tM x m ad T → jt_Mo_make_L54 n T l2 l3 l4 = some p → tS m ad x p (jf_Mo_make_L54 n x m l2 l3 l4)
  | 0, _, _, _, _, _, _, hh => nomatch hh
  | n + 1, x, T, l2, l3, l4, hM, hh => ts_Mo_make_B54 (ts_Mo_make_L54 n) x T l2 l3 l4 hM hh
def jt_Mo_make (T : tT) (a1 : Int32) (a2 : Int32) (a3 : Int32) : Option (tT × Int32) :=
  if (tf T 23) = 200 then
    some (T, (-7))
  else
    (tw T 25 300 (tf T 23) a1).bind fun T1 =>
    (tw T1 26 300 (tf T1 23) a2).bind fun T4 =>
    if 0 ≤ a3 then
      (tw T4 102 300 (tf T4 23) ((0 : Int32) &&& 1)).bind fun T7 =>
      jt_Mo_make_L54 lpK T7 a2 a3 0
    else
      (tw T4 102 300 (tf T4 23) ((1 : Int32) &&& 1)).bind fun T32 =>
      jt_Mo_make_L54 lpK T32 a2 a3 0
theorem ts_Mo_make {m : Nat} {ad : Nat → Nat} {x : q_S} {T : tT} {a1 : Int32} {a2 : Int32} {a3 : Int32} {p : tT × Int32} (hM : tM x m ad T) (hh : jt_Mo_make T a1 a2 a3 = some p) : tS m ad x p (jf_Mo_make x m a1 a2 a3) := by
  unfold jt_Mo_make at hh
  unfold jf_Mo_make
  refine s_gI hM 23 rfl ?_
  rcases q_ite hh with ⟨c36, hh⟩ | ⟨c36, hh⟩
  · refine s_ift c36 ?_
    cases hh
    exact s_ret hM
  · refine s_iff c36 ?_
    refine s_gR hM 25 24 rfl ?_
    refine s_gI hM 23 rfl ?_
    obtain ⟨T1, e2, hh⟩ := q_bind hh
    refine s_sI hM 25 rfl e2 (fun x3 hM => ?_)
    refine s_gR hM 26 25 rfl ?_
    refine s_gI hM 23 rfl ?_
    obtain ⟨T4, e5, hh⟩ := q_bind hh
    refine s_sI hM 26 rfl e5 (fun x6 hM => ?_)
    refine s_gR hM 102 26 rfl ?_
    refine s_gI hM 23 rfl ?_
    rcases q_ite hh with ⟨c35, hh⟩ | ⟨c35, hh⟩
    · refine s_ift c35 ?_
      obtain ⟨T7, e8, hh⟩ := q_bind hh
      refine s_sI hM 102 rfl e8 (fun x9 hM => ?_)
      exact ts_Mo_make_L54 lpK _ _ _ _ _ hM hh
    · refine s_iff c35 ?_
      obtain ⟨T32, e33, hh⟩ := q_bind hh
      refine s_sI hM 102 rfl e33 (fun x34 hM => ?_)
      exact ts_Mo_make_L54 lpK _ _ _ _ _ hM hh
-- beanOf(II)I
def jt_Mo_beanOf_B2 (rc : tT → Int32 → Int32 → Int32 → Option (tT × Int32)) (T : tT) (l1 : Int32) (l2 : Int32) (l3 : Int32) : Option (tT × Int32) :=
  if (tf T 23) ≤ l3 then
    some (T, (-1))
  else
    (tl T 25 300 l3).bind fun v1 =>
    if v1 = l1 then
      (tl T 26 300 l3).bind fun v3 =>
      if v3 = l2 then
        some (T, l3)
      else
        rc T l1 l2 (l3 + 1)
    else
      rc T l1 l2 (l3 + 1)
def jt_Mo_beanOf_L2 : Nat → tT → Int32 → Int32 → Int32 → Option (tT × Int32)
  | 0, _, _, _, _ => none
  | n + 1, T, l1, l2, l3 => jt_Mo_beanOf_B2 (jt_Mo_beanOf_L2 n) T l1 l2 l3
theorem ts_Mo_beanOf_B2 {m : Nat} {ad : Nat → Nat} {p : tT × Int32} {rc : tT → Int32 → Int32 → Int32 → Option (tT × Int32)} {rj : q_S → Nat → Int32 → Int32 → Int32 → Option (q_S × Int32)} (hrc : ∀ (x : q_S) (T : tT) (l1 : Int32) (l2 : Int32) (l3 : Int32), tM x m ad T → rc T l1 l2 l3 = some p → tS m ad x p (rj x m l1 l2 l3)) (x : q_S) (T : tT) (l1 : Int32) (l2 : Int32) (l3 : Int32) (hM : tM x m ad T) (hh : jt_Mo_beanOf_B2 rc T l1 l2 l3 = some p) : tS m ad x p (jf_Mo_beanOf_B2 rj x m l1 l2 l3) := by
  unfold jt_Mo_beanOf_B2 at hh
  unfold jf_Mo_beanOf_B2
  refine s_gI hM 23 rfl ?_
  rcases q_ite hh with ⟨c7, hh⟩ | ⟨c7, hh⟩
  · refine s_ift c7 ?_
    cases hh
    exact s_ret hM
  · refine s_iff c7 ?_
    refine s_gR hM 25 24 rfl ?_
    obtain ⟨v1, e2, hh⟩ := q_bind hh
    refine s_lI hM 25 rfl e2 ?_
    rcases q_ite hh with ⟨c6, hh⟩ | ⟨c6, hh⟩
    · refine s_ift c6 ?_
      refine s_gR hM 26 25 rfl ?_
      obtain ⟨v3, e4, hh⟩ := q_bind hh
      refine s_lI hM 26 rfl e4 ?_
      rcases q_ite hh with ⟨c5, hh⟩ | ⟨c5, hh⟩
      · refine s_ift c5 ?_
        cases hh
        exact s_ret hM
      · refine s_iff c5 ?_
        exact hrc _ _ _ _ _ hM hh
    · refine s_iff c6 ?_
      exact hrc _ _ _ _ _ hM hh
theorem ts_Mo_beanOf_L2 {m : Nat} {ad : Nat → Nat} {p : tT × Int32} : ∀ (n : Nat) (x : q_S) (T : tT) (l1 : Int32) (l2 : Int32) (l3 : Int32), tM x m ad T → jt_Mo_beanOf_L2 n T l1 l2 l3 = some p → tS m ad x p (jf_Mo_beanOf_L2 n x m l1 l2 l3)
  | 0, _, _, _, _, _, _, hh => nomatch hh
  | n + 1, x, T, l1, l2, l3, hM, hh => ts_Mo_beanOf_B2 (ts_Mo_beanOf_L2 n) x T l1 l2 l3 hM hh
def jt_Mo_beanOf (T : tT) (a1 : Int32) (a2 : Int32) : Option (tT × Int32) :=
  jt_Mo_beanOf_L2 lpK T a1 a2 0
theorem ts_Mo_beanOf {m : Nat} {ad : Nat → Nat} {x : q_S} {T : tT} {a1 : Int32} {a2 : Int32} {p : tT × Int32} (hM : tM x m ad T) (hh : jt_Mo_beanOf T a1 a2 = some p) : tS m ad x p (jf_Mo_beanOf x m a1 a2) := by
  unfold jt_Mo_beanOf at hh
  unfold jf_Mo_beanOf
  exact ts_Mo_beanOf_L2 lpK _ _ _ _ _ hM hh
-- start(II)I
def jt_Mo_start_B46 (rc : tT → Int32 → Int32 → Int32 → Option (tT × Int32)) (T : tT) (l1 : Int32) (l2 : Int32) (l4 : Int32) : Option (tT × Int32) :=
  if (tf T 32) ≤ l4 then
    (tw T 31 32 (tf T 32) l1).bind fun T10 =>
    (tw T10 32 32 (tf T10 32) l2).bind fun T13 =>
    (tw T13 33 32 (tf T13 32) 0).bind fun T16 =>
    (tpi T16 32 ((tf T16 32) + 1)).bind fun T19 =>
    some (T19, (-1))
  else
    (tl T 31 32 l4).bind fun v22 =>
    if v22 = l1 then
      (tl T 32 32 l4).bind fun v24 =>
      if v24 = l2 then
        some (T, (-5))
      else
        rc T l1 l2 (l4 + 1)
    else
      rc T l1 l2 (l4 + 1)
def jt_Mo_start_L46 : Nat → tT → Int32 → Int32 → Int32 → Option (tT × Int32)
  | 0, _, _, _, _ => none
  | n + 1, T, l1, l2, l4 => jt_Mo_start_B46 (jt_Mo_start_L46 n) T l1 l2 l4
theorem ts_Mo_start_B46 {m : Nat} {ad : Nat → Nat} {p : tT × Int32} {rc : tT → Int32 → Int32 → Int32 → Option (tT × Int32)} {rj : q_S → Nat → Int32 → Int32 → Int32 → Option (q_S × Int32)} (hrc : ∀ (x : q_S) (T : tT) (l1 : Int32) (l2 : Int32) (l4 : Int32), tM x m ad T → rc T l1 l2 l4 = some p → tS m ad x p (rj x m l1 l2 l4)) (x : q_S) (T : tT) (l1 : Int32) (l2 : Int32) (l4 : Int32) (hM : tM x m ad T) (hh : jt_Mo_start_B46 rc T l1 l2 l4 = some p) : tS m ad x p (jf_Mo_start_B46 rj x m l1 l2 l4) := by
  unfold jt_Mo_start_B46 at hh
  unfold jf_Mo_start_B46
  refine s_gI hM 32 rfl ?_
  rcases q_ite hh with ⟨c28, hh⟩ | ⟨c28, hh⟩
  · refine s_ift c28 ?_
    refine s_gR hM 31 33 rfl ?_
    refine s_gI hM 32 rfl ?_
    obtain ⟨T10, e11, hh⟩ := q_bind hh
    refine s_sI hM 31 rfl e11 (fun x12 hM => ?_)
    refine s_gR hM 32 34 rfl ?_
    refine s_gI hM 32 rfl ?_
    obtain ⟨T13, e14, hh⟩ := q_bind hh
    refine s_sI hM 32 rfl e14 (fun x15 hM => ?_)
    refine s_gR hM 33 35 rfl ?_
    refine s_gI hM 32 rfl ?_
    obtain ⟨T16, e17, hh⟩ := q_bind hh
    refine s_sI hM 33 rfl e17 (fun x18 hM => ?_)
    refine s_gI hM 32 rfl ?_
    obtain ⟨T19, e20, hh⟩ := q_bind hh
    refine s_pI hM 32 rfl e20 (fun x21 hM => ?_)
    cases hh
    exact s_ret hM
  · refine s_iff c28 ?_
    refine s_gR hM 31 33 rfl ?_
    obtain ⟨v22, e23, hh⟩ := q_bind hh
    refine s_lI hM 31 rfl e23 ?_
    rcases q_ite hh with ⟨c27, hh⟩ | ⟨c27, hh⟩
    · refine s_ift c27 ?_
      refine s_gR hM 32 34 rfl ?_
      obtain ⟨v24, e25, hh⟩ := q_bind hh
      refine s_lI hM 32 rfl e25 ?_
      rcases q_ite hh with ⟨c26, hh⟩ | ⟨c26, hh⟩
      · refine s_ift c26 ?_
        cases hh
        exact s_ret hM
      · refine s_iff c26 ?_
        exact hrc _ _ _ _ _ hM hh
    · refine s_iff c27 ?_
      exact hrc _ _ _ _ _ hM hh
theorem ts_Mo_start_L46 {m : Nat} {ad : Nat → Nat} {p : tT × Int32} : ∀ (n : Nat) (x : q_S) (T : tT) (l1 : Int32) (l2 : Int32) (l4 : Int32), tM x m ad T → jt_Mo_start_L46 n T l1 l2 l4 = some p → tS m ad x p (jf_Mo_start_L46 n x m l1 l2 l4)
  | 0, _, _, _, _, _, _, hh => nomatch hh
  | n + 1, x, T, l1, l2, l4, hM, hh => ts_Mo_start_B46 (ts_Mo_start_L46 n) x T l1 l2 l4 hM hh
def jt_Mo_start (T : tT) (a1 : Int32) (a2 : Int32) : Option (tT × Int32) :=
  (jt_Mo_many T a1 a2).bind fun p1 =>
  if p1.2 = 0 then
    (jt_Mo_beanOf p1.1 a1 a2).bind fun p4 =>
    if p4.2 < 0 then
      (jt_Mo_isMocked p4.1 a1 a2).bind fun p7 =>
      if p7.2 = 0 then
        jt_Mo_start_L46 lpK p7.1 a1 a2 0
      else
        (jt_Mo_make p7.1 a1 a2 (-1)).bind fun p29 =>
        some (p29.1, p29.2)
    else
      some (p4.1, p4.2)
  else
    (jt_Mo_isMocked p1.1 a1 a2).bind fun p34 =>
    if p34.2 = 0 then
      jt_Mo_start_L46 lpK p34.1 a1 a2 0
    else
      (jt_Mo_make p34.1 a1 a2 (-1)).bind fun p37 =>
      some (p37.1, p37.2)
theorem ts_Mo_start {m : Nat} {ad : Nat → Nat} {x : q_S} {T : tT} {a1 : Int32} {a2 : Int32} {p : tT × Int32} (hM : tM x m ad T) (hh : jt_Mo_start T a1 a2 = some p) : tS m ad x p (jf_Mo_start x m a1 a2) := by
  unfold jt_Mo_start at hh
  unfold jf_Mo_start
  obtain ⟨p1, e2, hh⟩ := q_bind hh
  refine s_av hM ?_
  refine s_call (ts_Mo_many hM e2) (fun x3 hM => ?_)
  rcases q_ite hh with ⟨c41, hh⟩ | ⟨c41, hh⟩
  · refine s_ift c41 ?_
    obtain ⟨p4, e5, hh⟩ := q_bind hh
    refine s_av hM ?_
    refine s_call (ts_Mo_beanOf hM e5) (fun x6 hM => ?_)
    rcases q_ite hh with ⟨c33, hh⟩ | ⟨c33, hh⟩
    · refine s_ift c33 ?_
      obtain ⟨p7, e8, hh⟩ := q_bind hh
      refine s_av hM ?_
      refine s_call (ts_Mo_isMocked hM e8) (fun x9 hM => ?_)
      rcases q_ite hh with ⟨c32, hh⟩ | ⟨c32, hh⟩
      · refine s_ift c32 ?_
        exact ts_Mo_start_L46 lpK _ _ _ _ _ hM hh
      · refine s_iff c32 ?_
        obtain ⟨p29, e30, hh⟩ := q_bind hh
        refine s_av hM ?_
        refine s_call (ts_Mo_make hM e30) (fun x31 hM => ?_)
        cases hh
        exact s_ret hM
    · refine s_iff c33 ?_
      cases hh
      exact s_ret hM
  · refine s_iff c41 ?_
    obtain ⟨p34, e35, hh⟩ := q_bind hh
    refine s_av hM ?_
    refine s_call (ts_Mo_isMocked hM e35) (fun x36 hM => ?_)
    rcases q_ite hh with ⟨c40, hh⟩ | ⟨c40, hh⟩
    · refine s_ift c40 ?_
      exact ts_Mo_start_L46 lpK _ _ _ _ _ hM hh
    · refine s_iff c40 ?_
      obtain ⟨p37, e38, hh⟩ := q_bind hh
      refine s_av hM ?_
      refine s_call (ts_Mo_make hM e38) (fun x39 hM => ?_)
      cases hh
      exact s_ret hM
-- supply(II)I
def jt_Mo_supply_B12 (rc : tT → Int32 → Option (tT × Int32)) (T : tT) (l3 : Int32) : Option (tT × Int32) :=
  if (tf T 32) ≤ 0 then
    some (T, l3)
  else
    if (-1) ≤ l3 then
      if l3 < 0 then
        (tl T 32 32 ((tf T 32) - 1)).bind fun v7 =>
        (tl T 33 32 ((tf T 32) - 1)).bind fun v9 =>
        (tl T 14 10 v7).bind fun v11 =>
        if v11 ≤ v9 then
          (tl T 11 10 v7).bind fun v13 =>
          if (v13 &&& 8) = 0 then
            (tl T 31 32 ((tf T 32) - 1)).bind fun v15 =>
            (jt_Mo_make T v15 v7 ((tf T 32) - 1)).bind fun p17 =>
            (tpi p17.1 32 ((tf p17.1 32) - 1)).bind fun T20 =>
            rc T20 p17.2
          else
            some (T, (-6))
        else
          (tl T 33 32 ((tf T 32) - 1)).bind fun v24 =>
          (tl T 31 32 ((tf T 32) - 1)).bind fun v26 =>
          (tl T 15 30 (((3 : Int32) * v7) + v24)).bind fun v28 =>
          (tl T 16 30 (((3 : Int32) * v7) + v24)).bind fun v30 =>
          (tl T 17 30 (((3 : Int32) * v7) + v24)).bind fun v32 =>
          (jt_Mo_find T v26 v28 v30 v32).bind fun p34 =>
          if 0 ≤ p34.2 then
            (jt_Mo_start p34.1 (tf p34.1 37) p34.2).bind fun p37 =>
            rc p37.1 p37.2
          else
            rc p34.1 p34.2
      else
        (tl T 33 32 ((tf T 32) - 1)).bind fun v42 =>
        (tw T 34 96 (((3 : Int32) * ((tf T 32) - 1)) + v42) l3).bind fun T44 =>
        (tl T44 33 32 ((tf T 32) - 1)).bind fun v47 =>
        (tw T44 33 32 ((tf T 32) - 1) (v47 + 1)).bind fun T49 =>
        (tl T49 32 32 ((tf T 32) - 1)).bind fun v52 =>
        (tl T49 33 32 ((tf T 32) - 1)).bind fun v54 =>
        (tl T49 14 10 v52).bind fun v56 =>
        if v56 ≤ v54 then
          (tl T49 11 10 v52).bind fun v58 =>
          if (v58 &&& 8) = 0 then
            (tl T49 31 32 ((tf T 32) - 1)).bind fun v60 =>
            (jt_Mo_make T49 v60 v52 ((tf T 32) - 1)).bind fun p62 =>
            (tpi p62.1 32 ((tf p62.1 32) - 1)).bind fun T65 =>
            rc T65 p62.2
          else
            some (T49, (-6))
        else
          (tl T49 33 32 ((tf T 32) - 1)).bind fun v69 =>
          (tl T49 31 32 ((tf T 32) - 1)).bind fun v71 =>
          (tl T49 15 30 (((3 : Int32) * v52) + v69)).bind fun v73 =>
          (tl T49 16 30 (((3 : Int32) * v52) + v69)).bind fun v75 =>
          (tl T49 17 30 (((3 : Int32) * v52) + v69)).bind fun v77 =>
          (jt_Mo_find T49 v71 v73 v75 v77).bind fun p79 =>
          if 0 ≤ p79.2 then
            (jt_Mo_start p79.1 (tf p79.1 37) p79.2).bind fun p82 =>
            rc p82.1 p82.2
          else
            rc p79.1 p79.2
    else
      some (T, l3)
def jt_Mo_supply_L12 : Nat → tT → Int32 → Option (tT × Int32)
  | 0, _, _ => none
  | n + 1, T, l3 => jt_Mo_supply_B12 (jt_Mo_supply_L12 n) T l3
theorem ts_Mo_supply_B12 {m : Nat} {ad : Nat → Nat} {p : tT × Int32} {rc : tT → Int32 → Option (tT × Int32)} {rj : q_S → Nat → Int32 → Option (q_S × Int32)} (hrc : ∀ (x : q_S) (T : tT) (l3 : Int32), tM x m ad T → rc T l3 = some p → tS m ad x p (rj x m l3)) (x : q_S) (T : tT) (l3 : Int32) (hM : tM x m ad T) (hh : jt_Mo_supply_B12 rc T l3 = some p) : tS m ad x p (jf_Mo_supply_B12 rj x m l3) := by
  unfold jt_Mo_supply_B12 at hh
  unfold jf_Mo_supply_B12
  refine s_gI hM 32 rfl ?_
  rcases q_ite hh with ⟨c89, hh⟩ | ⟨c89, hh⟩
  · refine s_ift c89 ?_
    cases hh
    exact s_ret hM
  · refine s_iff c89 ?_
    refine s_gI hM 32 rfl ?_
    rcases q_ite hh with ⟨c88, hh⟩ | ⟨c88, hh⟩
    · refine s_ift c88 ?_
      rcases q_ite hh with ⟨c87, hh⟩ | ⟨c87, hh⟩
      · refine s_ift c87 ?_
        refine s_gR hM 32 34 rfl ?_
        obtain ⟨v7, e8, hh⟩ := q_bind hh
        refine s_lI hM 32 rfl e8 ?_
        refine s_gR hM 33 35 rfl ?_
        obtain ⟨v9, e10, hh⟩ := q_bind hh
        refine s_lI hM 33 rfl e10 ?_
        refine s_gR hM 14 7 rfl ?_
        obtain ⟨v11, e12, hh⟩ := q_bind hh
        refine s_lI hM 14 rfl e12 ?_
        rcases q_ite hh with ⟨c41, hh⟩ | ⟨c41, hh⟩
        · refine s_ift c41 ?_
          refine s_gR hM 11 4 rfl ?_
          obtain ⟨v13, e14, hh⟩ := q_bind hh
          refine s_lI hM 11 rfl e14 ?_
          rcases q_ite hh with ⟨c23, hh⟩ | ⟨c23, hh⟩
          · refine s_ift c23 ?_
            refine s_gR hM 31 33 rfl ?_
            obtain ⟨v15, e16, hh⟩ := q_bind hh
            refine s_lI hM 31 rfl e16 ?_
            obtain ⟨p17, e18, hh⟩ := q_bind hh
            refine s_av hM ?_
            refine s_call (ts_Mo_make hM e18) (fun x19 hM => ?_)
            refine s_gI hM 32 rfl ?_
            obtain ⟨T20, e21, hh⟩ := q_bind hh
            refine s_pI hM 32 rfl e21 (fun x22 hM => ?_)
            exact hrc _ _ _ hM hh
          · refine s_iff c23 ?_
            cases hh
            exact s_ret hM
        · refine s_iff c41 ?_
          refine s_gR hM 33 35 rfl ?_
          obtain ⟨v24, e25, hh⟩ := q_bind hh
          refine s_lI hM 33 rfl e25 ?_
          refine s_gR hM 31 33 rfl ?_
          obtain ⟨v26, e27, hh⟩ := q_bind hh
          refine s_lI hM 31 rfl e27 ?_
          refine s_gR hM 15 8 rfl ?_
          obtain ⟨v28, e29, hh⟩ := q_bind hh
          refine s_lI hM 15 rfl e29 ?_
          refine s_gR hM 16 9 rfl ?_
          obtain ⟨v30, e31, hh⟩ := q_bind hh
          refine s_lI hM 16 rfl e31 ?_
          refine s_gR hM 17 10 rfl ?_
          obtain ⟨v32, e33, hh⟩ := q_bind hh
          refine s_lI hM 17 rfl e33 ?_
          obtain ⟨p34, e35, hh⟩ := q_bind hh
          refine s_av hM ?_
          refine s_call (ts_Mo_find hM e35) (fun x36 hM => ?_)
          rcases q_ite hh with ⟨c40, hh⟩ | ⟨c40, hh⟩
          · refine s_ift c40 ?_
            refine s_gI hM 37 rfl ?_
            obtain ⟨p37, e38, hh⟩ := q_bind hh
            refine s_av hM ?_
            refine s_call (ts_Mo_start hM e38) (fun x39 hM => ?_)
            exact hrc _ _ _ hM hh
          · refine s_iff c40 ?_
            exact hrc _ _ _ hM hh
      · refine s_iff c87 ?_
        refine s_gR hM 34 36 rfl ?_
        refine s_gR hM 33 35 rfl ?_
        obtain ⟨v42, e43, hh⟩ := q_bind hh
        refine s_lI hM 33 rfl e43 ?_
        obtain ⟨T44, e45, hh⟩ := q_bind hh
        refine s_sI hM 34 rfl e45 (fun x46 hM => ?_)
        refine s_gR hM 33 35 rfl ?_
        obtain ⟨v47, e48, hh⟩ := q_bind hh
        refine s_lI hM 33 rfl e48 ?_
        obtain ⟨T49, e50, hh⟩ := q_bind hh
        refine s_sI hM 33 rfl e50 (fun x51 hM => ?_)
        refine s_gR hM 32 34 rfl ?_
        obtain ⟨v52, e53, hh⟩ := q_bind hh
        refine s_lI hM 32 rfl e53 ?_
        refine s_gR hM 33 35 rfl ?_
        obtain ⟨v54, e55, hh⟩ := q_bind hh
        refine s_lI hM 33 rfl e55 ?_
        refine s_gR hM 14 7 rfl ?_
        obtain ⟨v56, e57, hh⟩ := q_bind hh
        refine s_lI hM 14 rfl e57 ?_
        rcases q_ite hh with ⟨c86, hh⟩ | ⟨c86, hh⟩
        · refine s_ift c86 ?_
          refine s_gR hM 11 4 rfl ?_
          obtain ⟨v58, e59, hh⟩ := q_bind hh
          refine s_lI hM 11 rfl e59 ?_
          rcases q_ite hh with ⟨c68, hh⟩ | ⟨c68, hh⟩
          · refine s_ift c68 ?_
            refine s_gR hM 31 33 rfl ?_
            obtain ⟨v60, e61, hh⟩ := q_bind hh
            refine s_lI hM 31 rfl e61 ?_
            obtain ⟨p62, e63, hh⟩ := q_bind hh
            refine s_av hM ?_
            refine s_call (ts_Mo_make hM e63) (fun x64 hM => ?_)
            refine s_gI hM 32 rfl ?_
            obtain ⟨T65, e66, hh⟩ := q_bind hh
            refine s_pI hM 32 rfl e66 (fun x67 hM => ?_)
            exact hrc _ _ _ hM hh
          · refine s_iff c68 ?_
            cases hh
            exact s_ret hM
        · refine s_iff c86 ?_
          refine s_gR hM 33 35 rfl ?_
          obtain ⟨v69, e70, hh⟩ := q_bind hh
          refine s_lI hM 33 rfl e70 ?_
          refine s_gR hM 31 33 rfl ?_
          obtain ⟨v71, e72, hh⟩ := q_bind hh
          refine s_lI hM 31 rfl e72 ?_
          refine s_gR hM 15 8 rfl ?_
          obtain ⟨v73, e74, hh⟩ := q_bind hh
          refine s_lI hM 15 rfl e74 ?_
          refine s_gR hM 16 9 rfl ?_
          obtain ⟨v75, e76, hh⟩ := q_bind hh
          refine s_lI hM 16 rfl e76 ?_
          refine s_gR hM 17 10 rfl ?_
          obtain ⟨v77, e78, hh⟩ := q_bind hh
          refine s_lI hM 17 rfl e78 ?_
          obtain ⟨p79, e80, hh⟩ := q_bind hh
          refine s_av hM ?_
          refine s_call (ts_Mo_find hM e80) (fun x81 hM => ?_)
          rcases q_ite hh with ⟨c85, hh⟩ | ⟨c85, hh⟩
          · refine s_ift c85 ?_
            refine s_gI hM 37 rfl ?_
            obtain ⟨p82, e83, hh⟩ := q_bind hh
            refine s_av hM ?_
            refine s_call (ts_Mo_start hM e83) (fun x84 hM => ?_)
            exact hrc _ _ _ hM hh
          · refine s_iff c85 ?_
            exact hrc _ _ _ hM hh
    · refine s_iff c88 ?_
      cases hh
      exact s_ret hM
theorem ts_Mo_supply_L12 {m : Nat} {ad : Nat → Nat} {p : tT × Int32} : ∀ (n : Nat) (x : q_S) (T : tT) (l3 : Int32), tM x m ad T → jt_Mo_supply_L12 n T l3 = some p → tS m ad x p (jf_Mo_supply_L12 n x m l3)
  | 0, _, _, _, _, hh => nomatch hh
  | n + 1, x, T, l3, hM, hh => ts_Mo_supply_B12 (ts_Mo_supply_L12 n) x T l3 hM hh
def jt_Mo_supply (T : tT) (a1 : Int32) (a2 : Int32) : Option (tT × Int32) :=
  (tpi T 32 0).bind fun T1 =>
  (jt_Mo_start T1 a1 a2).bind fun p4 =>
  jt_Mo_supply_L12 lpK p4.1 p4.2
theorem ts_Mo_supply {m : Nat} {ad : Nat → Nat} {x : q_S} {T : tT} {a1 : Int32} {a2 : Int32} {p : tT × Int32} (hM : tM x m ad T) (hh : jt_Mo_supply T a1 a2 = some p) : tS m ad x p (jf_Mo_supply x m a1 a2) := by
  unfold jt_Mo_supply at hh
  unfold jf_Mo_supply
  obtain ⟨T1, e2, hh⟩ := q_bind hh
  refine s_pI hM 32 rfl e2 (fun x3 hM => ?_)
  obtain ⟨p4, e5, hh⟩ := q_bind hh
  refine s_av hM ?_
  refine s_call (ts_Mo_start hM e5) (fun x6 hM => ?_)
  exact ts_Mo_supply_L12 lpK _ _ _ hM hh
-- get(IIII)I
def jt_Mo_get (T : tT) (a1 : Int32) (a2 : Int32) (a3 : Int32) (a4 : Int32) : Option (tT × Int32) :=
  (jt_Mo_cachedFor T a1).bind fun p1 =>
  if p1.2 < 0 then
    some (p1.1, (-1))
  else
    (jt_Mo_asked p1.1 a2 a3 a4).bind fun p4 =>
    if p4.2 = 0 then
      some (p4.1, (-1))
    else
      (jt_Mo_find p4.1 p1.2 a2 a3 a4).bind fun p7 =>
      if 0 ≤ p7.2 then
        (jt_Mo_supply p7.1 (tf p7.1 37) p7.2).bind fun p10 =>
        some (p10.1, p10.2)
      else
        some (p7.1, p7.2)
theorem ts_Mo_get {m : Nat} {ad : Nat → Nat} {x : q_S} {T : tT} {a1 : Int32} {a2 : Int32} {a3 : Int32} {a4 : Int32} {p : tT × Int32} (hM : tM x m ad T) (hh : jt_Mo_get T a1 a2 a3 a4 = some p) : tS m ad x p (jf_Mo_get x m a1 a2 a3 a4) := by
  unfold jt_Mo_get at hh
  unfold jf_Mo_get
  obtain ⟨p1, e2, hh⟩ := q_bind hh
  refine s_av hM ?_
  refine s_call (ts_Mo_cachedFor hM e2) (fun x3 hM => ?_)
  rcases q_ite hh with ⟨c15, hh⟩ | ⟨c15, hh⟩
  · refine s_ift c15 ?_
    cases hh
    exact s_ret hM
  · refine s_iff c15 ?_
    obtain ⟨p4, e5, hh⟩ := q_bind hh
    refine s_call (ts_Mo_asked hM e5) (fun x6 hM => ?_)
    rcases q_ite hh with ⟨c14, hh⟩ | ⟨c14, hh⟩
    · refine s_ift c14 ?_
      cases hh
      exact s_ret hM
    · refine s_iff c14 ?_
      obtain ⟨p7, e8, hh⟩ := q_bind hh
      refine s_av hM ?_
      refine s_call (ts_Mo_find hM e8) (fun x9 hM => ?_)
      rcases q_ite hh with ⟨c13, hh⟩ | ⟨c13, hh⟩
      · refine s_ift c13 ?_
        refine s_gI hM 37 rfl ?_
        obtain ⟨p10, e11, hh⟩ := q_bind hh
        refine s_av hM ?_
        refine s_call (ts_Mo_supply hM e11) (fun x12 hM => ?_)
        cases hh
        exact s_ret hM
      · refine s_iff c13 ?_
        cases hh
        exact s_ret hM
-- need(IIII)Z
def jt_Mo_need (T : tT) (a1 : Int32) (a2 : Int32) (a3 : Int32) (a4 : Int32) : Option (tT × Int32) :=
  (jt_Mo_in T a1 0 ((tf T 2) - 1)).bind fun p1 =>
  if p1.2 = 0 then
    some (p1.1, 0)
  else
    (jt_Mo_asked p1.1 a2 a3 a4).bind fun p4 =>
    if p4.2 = 0 then
      some (p4.1, 0)
    else
      (tl p4.1 14 10 a1).bind fun v7 =>
      if v7 = 3 then
        some (p4.1, 0)
      else
        if (tf p4.1 11) ≤ 0 then
          (tl p4.1 14 10 a1).bind fun v9 =>
          (tw p4.1 15 30 (((3 : Int32) * a1) + v9) a2).bind fun T11 =>
          (tw T11 16 30 (((3 : Int32) * a1) + v9) a3).bind fun T14 =>
          (tw T14 17 30 (((3 : Int32) * a1) + v9) a4).bind fun T17 =>
          (tl T17 14 10 a1).bind fun v20 =>
          (tw T17 14 10 a1 (v20 + 1)).bind fun T22 =>
          some (T22, 1)
        else
          some (p4.1, 0)
theorem ts_Mo_need {m : Nat} {ad : Nat → Nat} {x : q_S} {T : tT} {a1 : Int32} {a2 : Int32} {a3 : Int32} {a4 : Int32} {p : tT × Int32} (hM : tM x m ad T) (hh : jt_Mo_need T a1 a2 a3 a4 = some p) : tS m ad x p (jf_Mo_need x m a1 a2 a3 a4) := by
  unfold jt_Mo_need at hh
  unfold jf_Mo_need
  refine s_gI hM 2 rfl ?_
  obtain ⟨p1, e2, hh⟩ := q_bind hh
  refine s_call (ts_Mo_in hM e2) (fun x3 hM => ?_)
  rcases q_ite hh with ⟨c28, hh⟩ | ⟨c28, hh⟩
  · refine s_ift c28 ?_
    cases hh
    exact s_ret hM
  · refine s_iff c28 ?_
    obtain ⟨p4, e5, hh⟩ := q_bind hh
    refine s_call (ts_Mo_asked hM e5) (fun x6 hM => ?_)
    rcases q_ite hh with ⟨c27, hh⟩ | ⟨c27, hh⟩
    · refine s_ift c27 ?_
      cases hh
      exact s_ret hM
    · refine s_iff c27 ?_
      refine s_gR hM 14 7 rfl ?_
      obtain ⟨v7, e8, hh⟩ := q_bind hh
      refine s_lI hM 14 rfl e8 ?_
      rcases q_ite hh with ⟨c26, hh⟩ | ⟨c26, hh⟩
      · refine s_ift c26 ?_
        cases hh
        exact s_ret hM
      · refine s_iff c26 ?_
        refine s_gI hM 11 rfl ?_
        rcases q_ite hh with ⟨c25, hh⟩ | ⟨c25, hh⟩
        · refine s_ift c25 ?_
          refine s_gR hM 14 7 rfl ?_
          obtain ⟨v9, e10, hh⟩ := q_bind hh
          refine s_lI hM 14 rfl e10 ?_
          refine s_gR hM 15 8 rfl ?_
          obtain ⟨T11, e12, hh⟩ := q_bind hh
          refine s_sI hM 15 rfl e12 (fun x13 hM => ?_)
          refine s_gR hM 16 9 rfl ?_
          obtain ⟨T14, e15, hh⟩ := q_bind hh
          refine s_sI hM 16 rfl e15 (fun x16 hM => ?_)
          refine s_gR hM 17 10 rfl ?_
          obtain ⟨T17, e18, hh⟩ := q_bind hh
          refine s_sI hM 17 rfl e18 (fun x19 hM => ?_)
          refine s_gR hM 14 7 rfl ?_
          obtain ⟨v20, e21, hh⟩ := q_bind hh
          refine s_lI hM 14 rfl e21 ?_
          obtain ⟨T22, e23, hh⟩ := q_bind hh
          refine s_sI hM 14 rfl e23 (fun x24 hM => ?_)
          cases hh
          exact s_ret hM
        · refine s_iff c25 ?_
          cases hh
          exact s_ret hM
-- recorded(II)J
def jt_Mo_recorded (T : tT) (a1 : Int32) (a2 : Int32) : Option (tT × Int64) :=
  (jt_Mo_live T a1).bind fun p1 =>
  if p1.2 = 0 then
    some (p1.1, 4294967296)
  else
    (tl p1.1 102 300 a1).bind fun v4 =>
    if v4 = 0 then
      some (p1.1, 4294967296)
    else
      (jt_Mo_in p1.1 a2 0 1).bind fun p6 =>
      if p6.2 = 0 then
        some (p6.1, 4294967296)
      else
        if a2 = 0 then
          (tl p6.1 29 300 a1).bind fun v11 =>
          some (p6.1, v11.toInt64)
        else
          (tl p6.1 30 300 a1).bind fun v9 =>
          some (p6.1, v9.toInt64)
theorem ts_Mo_recorded {m : Nat} {ad : Nat → Nat} {x : q_S} {T : tT} {a1 : Int32} {a2 : Int32} {p : tT × Int64} (hM : tM x m ad T) (hh : jt_Mo_recorded T a1 a2 = some p) : tS m ad x p (jf_Mo_recorded x m a1 a2) := by
  unfold jt_Mo_recorded at hh
  unfold jf_Mo_recorded
  obtain ⟨p1, e2, hh⟩ := q_bind hh
  refine s_av hM ?_
  refine s_call (ts_Mo_live hM e2) (fun x3 hM => ?_)
  rcases q_ite hh with ⟨c16, hh⟩ | ⟨c16, hh⟩
  · refine s_ift c16 ?_
    cases hh
    exact s_ret hM
  · refine s_iff c16 ?_
    refine s_gR hM 102 26 rfl ?_
    obtain ⟨v4, e5, hh⟩ := q_bind hh
    refine s_lI hM 102 rfl e5 ?_
    rcases q_ite hh with ⟨c15, hh⟩ | ⟨c15, hh⟩
    · refine s_ift c15 ?_
      cases hh
      exact s_ret hM
    · refine s_iff c15 ?_
      obtain ⟨p6, e7, hh⟩ := q_bind hh
      refine s_call (ts_Mo_in hM e7) (fun x8 hM => ?_)
      rcases q_ite hh with ⟨c14, hh⟩ | ⟨c14, hh⟩
      · refine s_ift c14 ?_
        cases hh
        exact s_ret hM
      · refine s_iff c14 ?_
        rcases q_ite hh with ⟨c13, hh⟩ | ⟨c13, hh⟩
        · refine s_ift c13 ?_
          refine s_gR hM 29 30 rfl ?_
          obtain ⟨v11, e12, hh⟩ := q_bind hh
          refine s_lI hM 29 rfl e12 ?_
          cases hh
          exact s_ret hM
        · refine s_iff c13 ?_
          refine s_gR hM 30 31 rfl ?_
          obtain ⟨v9, e10, hh⟩ := q_bind hh
          refine s_lI hM 30 rfl e10 ?_
          cases hh
          exact s_ret hM
-- isAbove(II)Z
def jt_Mo_isAbove (T : tT) (a1 : Int32) (a2 : Int32) : Option (tT × Int32) :=
  (tl T 23 30 a2).bind fun v1 =>
  if v1 < 0 then
    some (T, 0)
  else
    if v1 = a1 then
      some (T, 1)
    else
      (tl T 23 30 v1).bind fun v3 =>
      if v3 = a1 then
        some (T, 1)
      else
        some (T, 0)
theorem ts_Mo_isAbove {m : Nat} {ad : Nat → Nat} {x : q_S} {T : tT} {a1 : Int32} {a2 : Int32} {p : tT × Int32} (hM : tM x m ad T) (hh : jt_Mo_isAbove T a1 a2 = some p) : tS m ad x p (jf_Mo_isAbove x m a1 a2) := by
  unfold jt_Mo_isAbove at hh
  unfold jf_Mo_isAbove
  refine s_gR hM 23 18 rfl ?_
  obtain ⟨v1, e2, hh⟩ := q_bind hh
  refine s_lI hM 23 rfl e2 ?_
  rcases q_ite hh with ⟨c7, hh⟩ | ⟨c7, hh⟩
  · refine s_ift c7 ?_
    cases hh
    exact s_ret hM
  · refine s_iff c7 ?_
    rcases q_ite hh with ⟨c6, hh⟩ | ⟨c6, hh⟩
    · refine s_ift c6 ?_
      cases hh
      exact s_ret hM
    · refine s_iff c6 ?_
      refine s_gR hM 23 18 rfl ?_
      obtain ⟨v3, e4, hh⟩ := q_bind hh
      refine s_lI hM 23 rfl e4 ?_
      rcases q_ite hh with ⟨c5, hh⟩ | ⟨c5, hh⟩
      · refine s_ift c5 ?_
        cases hh
        exact s_ret hM
      · refine s_iff c5 ?_
        cases hh
        exact s_ret hM
-- displace(I)V
def jt_Mo_displace_B4 (rc : tT → Int32 → Int32 → Int32 → Option (tT × Unit)) (T : tT) (l1 : Int32) (l2 : Int32) (l3 : Int32) : Option (tT × Unit) :=
  if (tf T 16) ≤ l3 then
    if l2 < 0 then
      some (T, ())
    else
      (jt_Mo_close T l2).bind fun p1 =>
      some (p1.1, ())
  else
    (tl T 101 30 l3).bind fun v5 =>
    if v5 = 0 then
      rc T l1 l2 (l3 + 1)
    else
      (jt_Mo_isAbove T l3 l1).bind fun p7 =>
      if p7.2 = 0 then
        if l2 < 0 then
          rc p7.1 l1 l3 (l3 + 1)
        else
          (tl p7.1 24 30 l3).bind fun v10 =>
          (tl p7.1 24 30 l2).bind fun v12 =>
          if v12 ≤ v10 then
            rc p7.1 l1 l2 (l3 + 1)
          else
            rc p7.1 l1 l3 (l3 + 1)
      else
        rc p7.1 l1 l2 (l3 + 1)
def jt_Mo_displace_L4 : Nat → tT → Int32 → Int32 → Int32 → Option (tT × Unit)
  | 0, _, _, _, _ => none
  | n + 1, T, l1, l2, l3 => jt_Mo_displace_B4 (jt_Mo_displace_L4 n) T l1 l2 l3
theorem ts_Mo_displace_B4 {m : Nat} {ad : Nat → Nat} {p : tT × Unit} {rc : tT → Int32 → Int32 → Int32 → Option (tT × Unit)} {rj : q_S → Nat → Int32 → Int32 → Int32 → Option (q_S × Unit)} (hrc : ∀ (x : q_S) (T : tT) (l1 : Int32) (l2 : Int32) (l3 : Int32), tM x m ad T → rc T l1 l2 l3 = some p → tS m ad x p (rj x m l1 l2 l3)) (x : q_S) (T : tT) (l1 : Int32) (l2 : Int32) (l3 : Int32) (hM : tM x m ad T) (hh : jt_Mo_displace_B4 rc T l1 l2 l3 = some p) : tS m ad x p (jf_Mo_displace_B4 rj x m l1 l2 l3) := by
  unfold jt_Mo_displace_B4 at hh
  unfold jf_Mo_displace_B4
  refine s_gI hM 16 rfl ?_
  rcases q_ite hh with ⟨c18, hh⟩ | ⟨c18, hh⟩
  · refine s_ift c18 ?_
    rcases q_ite hh with ⟨c4, hh⟩ | ⟨c4, hh⟩
    · refine s_ift c4 ?_
      cases hh
      exact s_ret hM
    · refine s_iff c4 ?_
      obtain ⟨p1, e2, hh⟩ := q_bind hh
      refine s_av hM ?_
      refine s_call (ts_Mo_close hM e2) (fun x3 hM => ?_)
      cases hh
      exact s_ret hM
  · refine s_iff c18 ?_
    refine s_gR hM 101 19 rfl ?_
    obtain ⟨v5, e6, hh⟩ := q_bind hh
    refine s_lI hM 101 rfl e6 ?_
    rcases q_ite hh with ⟨c17, hh⟩ | ⟨c17, hh⟩
    · refine s_ift c17 ?_
      exact hrc _ _ _ _ _ hM hh
    · refine s_iff c17 ?_
      obtain ⟨p7, e8, hh⟩ := q_bind hh
      refine s_av hM ?_
      refine s_call (ts_Mo_isAbove hM e8) (fun x9 hM => ?_)
      rcases q_ite hh with ⟨c16, hh⟩ | ⟨c16, hh⟩
      · refine s_ift c16 ?_
        rcases q_ite hh with ⟨c15, hh⟩ | ⟨c15, hh⟩
        · refine s_ift c15 ?_
          exact hrc _ _ _ _ _ hM hh
        · refine s_iff c15 ?_
          refine s_gR hM 24 20 rfl ?_
          obtain ⟨v10, e11, hh⟩ := q_bind hh
          refine s_lI hM 24 rfl e11 ?_
          refine s_gR hM 24 20 rfl ?_
          obtain ⟨v12, e13, hh⟩ := q_bind hh
          refine s_lI hM 24 rfl e13 ?_
          rcases q_ite hh with ⟨c14, hh⟩ | ⟨c14, hh⟩
          · refine s_ift c14 ?_
            exact hrc _ _ _ _ _ hM hh
          · refine s_iff c14 ?_
            exact hrc _ _ _ _ _ hM hh
      · refine s_iff c16 ?_
        exact hrc _ _ _ _ _ hM hh
theorem ts_Mo_displace_L4 {m : Nat} {ad : Nat → Nat} {p : tT × Unit} : ∀ (n : Nat) (x : q_S) (T : tT) (l1 : Int32) (l2 : Int32) (l3 : Int32), tM x m ad T → jt_Mo_displace_L4 n T l1 l2 l3 = some p → tS m ad x p (jf_Mo_displace_L4 n x m l1 l2 l3)
  | 0, _, _, _, _, _, _, hh => nomatch hh
  | n + 1, x, T, l1, l2, l3, hM, hh => ts_Mo_displace_B4 (ts_Mo_displace_L4 n) x T l1 l2 l3 hM hh
def jt_Mo_displace (T : tT) (a1 : Int32) : Option (tT × Unit) :=
  jt_Mo_displace_L4 lpK T a1 (-1) 0
theorem ts_Mo_displace {m : Nat} {ad : Nat → Nat} {x : q_S} {T : tT} {a1 : Int32} {p : tT × Unit} (hM : tM x m ad T) (hh : jt_Mo_displace T a1 = some p) : tS m ad x p (jf_Mo_displace x m a1) := by
  unfold jt_Mo_displace at hh
  unfold jf_Mo_displace
  exact ts_Mo_displace_L4 lpK _ _ _ _ _ hM hh
-- keptNow()I
def jt_Mo_keptNow_B4 (rc : tT → Int32 → Int32 → Option (tT × Int32)) (T : tT) (l1 : Int32) (l2 : Int32) : Option (tT × Int32) :=
  if (tf T 16) ≤ l2 then
    some (T, l1)
  else
    (tl T 101 30 l2).bind fun v1 =>
    if v1 = 0 then
      rc T l1 (l2 + 1)
    else
      rc T (l1 + 1) (l2 + 1)
def jt_Mo_keptNow_L4 : Nat → tT → Int32 → Int32 → Option (tT × Int32)
  | 0, _, _, _ => none
  | n + 1, T, l1, l2 => jt_Mo_keptNow_B4 (jt_Mo_keptNow_L4 n) T l1 l2
theorem ts_Mo_keptNow_B4 {m : Nat} {ad : Nat → Nat} {p : tT × Int32} {rc : tT → Int32 → Int32 → Option (tT × Int32)} {rj : q_S → Nat → Int32 → Int32 → Option (q_S × Int32)} (hrc : ∀ (x : q_S) (T : tT) (l1 : Int32) (l2 : Int32), tM x m ad T → rc T l1 l2 = some p → tS m ad x p (rj x m l1 l2)) (x : q_S) (T : tT) (l1 : Int32) (l2 : Int32) (hM : tM x m ad T) (hh : jt_Mo_keptNow_B4 rc T l1 l2 = some p) : tS m ad x p (jf_Mo_keptNow_B4 rj x m l1 l2) := by
  unfold jt_Mo_keptNow_B4 at hh
  unfold jf_Mo_keptNow_B4
  refine s_gI hM 16 rfl ?_
  rcases q_ite hh with ⟨c4, hh⟩ | ⟨c4, hh⟩
  · refine s_ift c4 ?_
    cases hh
    exact s_ret hM
  · refine s_iff c4 ?_
    refine s_gR hM 101 19 rfl ?_
    obtain ⟨v1, e2, hh⟩ := q_bind hh
    refine s_lI hM 101 rfl e2 ?_
    rcases q_ite hh with ⟨c3, hh⟩ | ⟨c3, hh⟩
    · refine s_ift c3 ?_
      exact hrc _ _ _ _ hM hh
    · refine s_iff c3 ?_
      exact hrc _ _ _ _ hM hh
theorem ts_Mo_keptNow_L4 {m : Nat} {ad : Nat → Nat} {p : tT × Int32} : ∀ (n : Nat) (x : q_S) (T : tT) (l1 : Int32) (l2 : Int32), tM x m ad T → jt_Mo_keptNow_L4 n T l1 l2 = some p → tS m ad x p (jf_Mo_keptNow_L4 n x m l1 l2)
  | 0, _, _, _, _, _, hh => nomatch hh
  | n + 1, x, T, l1, l2, hM, hh => ts_Mo_keptNow_B4 (ts_Mo_keptNow_L4 n) x T l1 l2 hM hh
def jt_Mo_keptNow (T : tT)  : Option (tT × Int32) :=
  jt_Mo_keptNow_L4 lpK T 0 0
theorem ts_Mo_keptNow {m : Nat} {ad : Nat → Nat} {x : q_S} {T : tT}  {p : tT × Int32} (hM : tM x m ad T) (hh : jt_Mo_keptNow T  = some p) : tS m ad x p (jf_Mo_keptNow x m ) := by
  unfold jt_Mo_keptNow at hh
  unfold jf_Mo_keptNow
  exact ts_Mo_keptNow_L4 lpK _ _ _ _ hM hh
-- stamp(I)V
def jt_Mo_stamp (T : tT) (a1 : Int32) : Option (tT × Unit) :=
  if 0 ≤ a1 then
    (tpi T 21 ((tf T 21) + 1)).bind fun T1 =>
    (tw T1 24 30 a1 (tf T1 21)).bind fun T4 =>
    some (T4, ())
  else
    some (T, ())
theorem ts_Mo_stamp {m : Nat} {ad : Nat → Nat} {x : q_S} {T : tT} {a1 : Int32} {p : tT × Unit} (hM : tM x m ad T) (hh : jt_Mo_stamp T a1 = some p) : tS m ad x p (jf_Mo_stamp x m a1) := by
  unfold jt_Mo_stamp at hh
  unfold jf_Mo_stamp
  rcases q_ite hh with ⟨c7, hh⟩ | ⟨c7, hh⟩
  · refine s_ift c7 ?_
    refine s_gI hM 21 rfl ?_
    obtain ⟨T1, e2, hh⟩ := q_bind hh
    refine s_pI hM 21 rfl e2 (fun x3 hM => ?_)
    refine s_gR hM 24 20 rfl ?_
    refine s_gI hM 21 rfl ?_
    obtain ⟨T4, e5, hh⟩ := q_bind hh
    refine s_sI hM 24 rfl e5 (fun x6 hM => ?_)
    cases hh
    exact s_ret hM
  · refine s_iff c7 ?_
    cases hh
    exact s_ret hM
-- use(I)V
def jt_Mo_use (T : tT) (a1 : Int32) : Option (tT × Unit) :=
  (tl T 23 30 a1).bind fun v1 =>
  if 0 ≤ v1 then
    (tl T 23 30 v1).bind fun v3 =>
    (jt_Mo_stamp T v3).bind fun p5 =>
    (jt_Mo_stamp p5.1 v1).bind fun p8 =>
    (jt_Mo_stamp p8.1 a1).bind fun p11 =>
    some (p11.1, ())
  else
    (jt_Mo_stamp T (-1)).bind fun p14 =>
    (jt_Mo_stamp p14.1 v1).bind fun p17 =>
    (jt_Mo_stamp p17.1 a1).bind fun p20 =>
    some (p20.1, ())
theorem ts_Mo_use {m : Nat} {ad : Nat → Nat} {x : q_S} {T : tT} {a1 : Int32} {p : tT × Unit} (hM : tM x m ad T) (hh : jt_Mo_use T a1 = some p) : tS m ad x p (jf_Mo_use x m a1) := by
  unfold jt_Mo_use at hh
  unfold jf_Mo_use
  refine s_gR hM 23 18 rfl ?_
  obtain ⟨v1, e2, hh⟩ := q_bind hh
  refine s_lI hM 23 rfl e2 ?_
  rcases q_ite hh with ⟨c23, hh⟩ | ⟨c23, hh⟩
  · refine s_ift c23 ?_
    refine s_gR hM 23 18 rfl ?_
    obtain ⟨v3, e4, hh⟩ := q_bind hh
    refine s_lI hM 23 rfl e4 ?_
    obtain ⟨p5, e6, hh⟩ := q_bind hh
    refine s_av hM ?_
    refine s_call (ts_Mo_stamp hM e6) (fun x7 hM => ?_)
    obtain ⟨p8, e9, hh⟩ := q_bind hh
    refine s_av hM ?_
    refine s_call (ts_Mo_stamp hM e9) (fun x10 hM => ?_)
    obtain ⟨p11, e12, hh⟩ := q_bind hh
    refine s_av hM ?_
    refine s_call (ts_Mo_stamp hM e12) (fun x13 hM => ?_)
    cases hh
    exact s_ret hM
  · refine s_iff c23 ?_
    obtain ⟨p14, e15, hh⟩ := q_bind hh
    refine s_av hM ?_
    refine s_call (ts_Mo_stamp hM e15) (fun x16 hM => ?_)
    obtain ⟨p17, e18, hh⟩ := q_bind hh
    refine s_av hM ?_
    refine s_call (ts_Mo_stamp hM e18) (fun x19 hM => ?_)
    obtain ⟨p20, e21, hh⟩ := q_bind hh
    refine s_av hM ?_
    refine s_call (ts_Mo_stamp hM e21) (fun x22 hM => ?_)
    cases hh
    exact s_ret hM
-- build(II)I
def jt_Mo_build_B44 (rc : tT → Int32 → Int32 → Int32 → Option (tT × Int32)) (T : tT) (l1 : Int32) (l3 : Int32) (l4 : Int32) : Option (tT × Int32) :=
  if (tf T 2) ≤ l4 then
    (jt_Mo_keptNow T).bind fun p10 =>
    if p10.2 = (tf p10.1 0) then
      (jt_Mo_displace p10.1 l3).bind fun p22 =>
      (tw p22.1 101 30 l3 ((1 : Int32) &&& 1)).bind fun T25 =>
      (jt_Mo_use T25 l3).bind fun p28 =>
      (jt_Mo_note p28.1 2 l3).bind fun p31 =>
      some (p31.1, l3)
    else
      (tw p10.1 101 30 l3 ((1 : Int32) &&& 1)).bind fun T13 =>
      (jt_Mo_use T13 l3).bind fun p16 =>
      (jt_Mo_note p16.1 2 l3).bind fun p19 =>
      some (p19.1, l3)
  else
    (jt_Mo_isIn T l3 l4).bind fun p35 =>
    if p35.2 = 0 then
      rc p35.1 l1 l3 (l4 + 1)
    else
      (jt_Mo_isMocked p35.1 l3 l4).bind fun p38 =>
      if p38.2 = 0 then
        (tl p38.1 11 10 l4).bind fun v60 =>
        if (v60 &&& 6) = 0 then
          (jt_Mo_beanOf p38.1 l3 l4).bind fun p62 =>
          if p62.2 < 0 then
            (jt_Mo_supply p62.1 l3 l4).bind fun p65 =>
            if 0 ≤ p65.2 then
              rc p65.1 l1 l3 (l4 + 1)
            else
              (jt_Mo_destroy p65.1 l3).bind fun p68 =>
              (tl p68.1 21 8 l1).bind fun v71 =>
              (tw p68.1 21 8 l1 (v71 + 1)).bind fun T73 =>
              (jt_Mo_note T73 3 l3).bind fun p76 =>
              some (p76.1, p65.2)
          else
            rc p62.1 l1 l3 (l4 + 1)
        else
          rc p38.1 l1 l3 (l4 + 1)
      else
        (jt_Mo_beanOf p38.1 l3 l4).bind fun p41 =>
        if p41.2 < 0 then
          (jt_Mo_supply p41.1 l3 l4).bind fun p44 =>
          if 0 ≤ p44.2 then
            rc p44.1 l1 l3 (l4 + 1)
          else
            (jt_Mo_destroy p44.1 l3).bind fun p47 =>
            (tl p47.1 21 8 l1).bind fun v50 =>
            (tw p47.1 21 8 l1 (v50 + 1)).bind fun T52 =>
            (jt_Mo_note T52 3 l3).bind fun p55 =>
            some (p55.1, p44.2)
        else
          rc p41.1 l1 l3 (l4 + 1)
def jt_Mo_build_L44 : Nat → tT → Int32 → Int32 → Int32 → Option (tT × Int32)
  | 0, _, _, _, _ => none
  | n + 1, T, l1, l3, l4 => jt_Mo_build_B44 (jt_Mo_build_L44 n) T l1 l3 l4
theorem ts_Mo_build_B44 {m : Nat} {ad : Nat → Nat} {p : tT × Int32} {rc : tT → Int32 → Int32 → Int32 → Option (tT × Int32)} {rj : q_S → Nat → Int32 → Int32 → Int32 → Option (q_S × Int32)} (hrc : ∀ (x : q_S) (T : tT) (l1 : Int32) (l3 : Int32) (l4 : Int32), tM x m ad T → rc T l1 l3 l4 = some p → tS m ad x p (rj x m l1 l3 l4)) (x : q_S) (T : tT) (l1 : Int32) (l3 : Int32) (l4 : Int32) (hM : tM x m ad T) (hh : jt_Mo_build_B44 rc T l1 l3 l4 = some p) : tS m ad x p (jf_Mo_build_B44 rj x m l1 l3 l4) := by
  unfold jt_Mo_build_B44 at hh
  unfold jf_Mo_build_B44
  refine s_gI hM 2 rfl ?_
  rcases q_ite hh with ⟨c84, hh⟩ | ⟨c84, hh⟩
  · refine s_ift c84 ?_
    obtain ⟨p10, e11, hh⟩ := q_bind hh
    refine s_av hM ?_
    refine s_call (ts_Mo_keptNow hM e11) (fun x12 hM => ?_)
    refine s_gI hM 0 rfl ?_
    rcases q_ite hh with ⟨c34, hh⟩ | ⟨c34, hh⟩
    · refine s_ift c34 ?_
      obtain ⟨p22, e23, hh⟩ := q_bind hh
      refine s_av hM ?_
      refine s_call (ts_Mo_displace hM e23) (fun x24 hM => ?_)
      refine s_gR hM 101 19 rfl ?_
      obtain ⟨T25, e26, hh⟩ := q_bind hh
      refine s_sI hM 101 rfl e26 (fun x27 hM => ?_)
      obtain ⟨p28, e29, hh⟩ := q_bind hh
      refine s_av hM ?_
      refine s_call (ts_Mo_use hM e29) (fun x30 hM => ?_)
      obtain ⟨p31, e32, hh⟩ := q_bind hh
      refine s_av hM ?_
      refine s_call (ts_Mo_note hM e32) (fun x33 hM => ?_)
      cases hh
      exact s_ret hM
    · refine s_iff c34 ?_
      refine s_gR hM 101 19 rfl ?_
      obtain ⟨T13, e14, hh⟩ := q_bind hh
      refine s_sI hM 101 rfl e14 (fun x15 hM => ?_)
      obtain ⟨p16, e17, hh⟩ := q_bind hh
      refine s_av hM ?_
      refine s_call (ts_Mo_use hM e17) (fun x18 hM => ?_)
      obtain ⟨p19, e20, hh⟩ := q_bind hh
      refine s_av hM ?_
      refine s_call (ts_Mo_note hM e20) (fun x21 hM => ?_)
      cases hh
      exact s_ret hM
  · refine s_iff c84 ?_
    obtain ⟨p35, e36, hh⟩ := q_bind hh
    refine s_av hM ?_
    refine s_call (ts_Mo_isIn hM e36) (fun x37 hM => ?_)
    rcases q_ite hh with ⟨c83, hh⟩ | ⟨c83, hh⟩
    · refine s_ift c83 ?_
      exact hrc _ _ _ _ _ hM hh
    · refine s_iff c83 ?_
      obtain ⟨p38, e39, hh⟩ := q_bind hh
      refine s_av hM ?_
      refine s_call (ts_Mo_isMocked hM e39) (fun x40 hM => ?_)
      rcases q_ite hh with ⟨c82, hh⟩ | ⟨c82, hh⟩
      · refine s_ift c82 ?_
        refine s_gR hM 11 4 rfl ?_
        obtain ⟨v60, e61, hh⟩ := q_bind hh
        refine s_lI hM 11 rfl e61 ?_
        rcases q_ite hh with ⟨c81, hh⟩ | ⟨c81, hh⟩
        · refine s_ift c81 ?_
          obtain ⟨p62, e63, hh⟩ := q_bind hh
          refine s_av hM ?_
          refine s_call (ts_Mo_beanOf hM e63) (fun x64 hM => ?_)
          rcases q_ite hh with ⟨c80, hh⟩ | ⟨c80, hh⟩
          · refine s_ift c80 ?_
            obtain ⟨p65, e66, hh⟩ := q_bind hh
            refine s_av hM ?_
            refine s_call (ts_Mo_supply hM e66) (fun x67 hM => ?_)
            rcases q_ite hh with ⟨c79, hh⟩ | ⟨c79, hh⟩
            · refine s_ift c79 ?_
              exact hrc _ _ _ _ _ hM hh
            · refine s_iff c79 ?_
              obtain ⟨p68, e69, hh⟩ := q_bind hh
              refine s_av hM ?_
              refine s_call (ts_Mo_destroy hM e69) (fun x70 hM => ?_)
              refine s_gR hM 21 15 rfl ?_
              obtain ⟨v71, e72, hh⟩ := q_bind hh
              refine s_lI hM 21 rfl e72 ?_
              obtain ⟨T73, e74, hh⟩ := q_bind hh
              refine s_sI hM 21 rfl e74 (fun x75 hM => ?_)
              obtain ⟨p76, e77, hh⟩ := q_bind hh
              refine s_av hM ?_
              refine s_call (ts_Mo_note hM e77) (fun x78 hM => ?_)
              cases hh
              exact s_ret hM
          · refine s_iff c80 ?_
            exact hrc _ _ _ _ _ hM hh
        · refine s_iff c81 ?_
          exact hrc _ _ _ _ _ hM hh
      · refine s_iff c82 ?_
        obtain ⟨p41, e42, hh⟩ := q_bind hh
        refine s_av hM ?_
        refine s_call (ts_Mo_beanOf hM e42) (fun x43 hM => ?_)
        rcases q_ite hh with ⟨c59, hh⟩ | ⟨c59, hh⟩
        · refine s_ift c59 ?_
          obtain ⟨p44, e45, hh⟩ := q_bind hh
          refine s_av hM ?_
          refine s_call (ts_Mo_supply hM e45) (fun x46 hM => ?_)
          rcases q_ite hh with ⟨c58, hh⟩ | ⟨c58, hh⟩
          · refine s_ift c58 ?_
            exact hrc _ _ _ _ _ hM hh
          · refine s_iff c58 ?_
            obtain ⟨p47, e48, hh⟩ := q_bind hh
            refine s_av hM ?_
            refine s_call (ts_Mo_destroy hM e48) (fun x49 hM => ?_)
            refine s_gR hM 21 15 rfl ?_
            obtain ⟨v50, e51, hh⟩ := q_bind hh
            refine s_lI hM 21 rfl e51 ?_
            obtain ⟨T52, e53, hh⟩ := q_bind hh
            refine s_sI hM 21 rfl e53 (fun x54 hM => ?_)
            obtain ⟨p55, e56, hh⟩ := q_bind hh
            refine s_av hM ?_
            refine s_call (ts_Mo_note hM e56) (fun x57 hM => ?_)
            cases hh
            exact s_ret hM
        · refine s_iff c59 ?_
          exact hrc _ _ _ _ _ hM hh
theorem ts_Mo_build_L44 {m : Nat} {ad : Nat → Nat} {p : tT × Int32} : ∀ (n : Nat) (x : q_S) (T : tT) (l1 : Int32) (l3 : Int32) (l4 : Int32), tM x m ad T → jt_Mo_build_L44 n T l1 l3 l4 = some p → tS m ad x p (jf_Mo_build_L44 n x m l1 l3 l4)
  | 0, _, _, _, _, _, _, hh => nomatch hh
  | n + 1, x, T, l1, l3, l4, hM, hh => ts_Mo_build_B44 (ts_Mo_build_L44 n) x T l1 l3 l4 hM hh
def jt_Mo_build (T : tT) (a1 : Int32) (a2 : Int32) : Option (tT × Int32) :=
  if (tf T 16) = 30 then
    some (T, (-7))
  else
    (tpi T 16 ((tf T 16) + 1)).bind fun T1 =>
    (tw T1 22 30 (tf T 16) a1).bind fun T4 =>
    (tw T4 23 30 (tf T 16) a2).bind fun T7 =>
    jt_Mo_build_L44 lpK T7 a1 (tf T 16) 0
theorem ts_Mo_build {m : Nat} {ad : Nat → Nat} {x : q_S} {T : tT} {a1 : Int32} {a2 : Int32} {p : tT × Int32} (hM : tM x m ad T) (hh : jt_Mo_build T a1 a2 = some p) : tS m ad x p (jf_Mo_build x m a1 a2) := by
  unfold jt_Mo_build at hh
  unfold jf_Mo_build
  refine s_gI hM 16 rfl ?_
  rcases q_ite hh with ⟨c85, hh⟩ | ⟨c85, hh⟩
  · refine s_ift c85 ?_
    cases hh
    exact s_ret hM
  · refine s_iff c85 ?_
    refine s_gI hM 16 rfl ?_
    refine s_gI hM 16 rfl ?_
    obtain ⟨T1, e2, hh⟩ := q_bind hh
    refine s_pI hM 16 rfl e2 (fun x3 hM => ?_)
    refine s_gR hM 22 17 rfl ?_
    obtain ⟨T4, e5, hh⟩ := q_bind hh
    refine s_sI hM 22 rfl e5 (fun x6 hM => ?_)
    refine s_gR hM 23 18 rfl ?_
    obtain ⟨T7, e8, hh⟩ := q_bind hh
    refine s_sI hM 23 rfl e8 (fun x9 hM => ?_)
    exact ts_Mo_build_L44 lpK _ _ _ _ _ hM hh
-- parentKey(I)I
def jt_Mo_parentKey (T : tT) (a1 : Int32) : Option (tT × Int32) :=
  (tl T 20 8 a1).bind fun v1 =>
  if 0 ≤ v1 then
    (tl T 20 8 a1).bind fun v3 =>
    (jt_Mo_key T v3).bind fun p5 =>
    some (p5.1, p5.2)
  else
    some (T, (-1))
theorem ts_Mo_parentKey {m : Nat} {ad : Nat → Nat} {x : q_S} {T : tT} {a1 : Int32} {p : tT × Int32} (hM : tM x m ad T) (hh : jt_Mo_parentKey T a1 = some p) : tS m ad x p (jf_Mo_parentKey x m a1) := by
  unfold jt_Mo_parentKey at hh
  unfold jf_Mo_parentKey
  refine s_gR hM 20 14 rfl ?_
  obtain ⟨v1, e2, hh⟩ := q_bind hh
  refine s_lI hM 20 rfl e2 ?_
  rcases q_ite hh with ⟨c8, hh⟩ | ⟨c8, hh⟩
  · refine s_ift c8 ?_
    refine s_gR hM 20 14 rfl ?_
    obtain ⟨v3, e4, hh⟩ := q_bind hh
    refine s_lI hM 20 rfl e4 ?_
    obtain ⟨p5, e6, hh⟩ := q_bind hh
    refine s_av hM ?_
    refine s_call (ts_Mo_key hM e6) (fun x7 hM => ?_)
    cases hh
    exact s_ret hM
  · refine s_iff c8 ?_
    cases hh
    exact s_ret hM
-- obtain(I)I
def jt_Mo_obtain_B131 (kk : tT → Int32 → Int32 → Int32 → Int32 → Int32 → Option (tT × Int32)) (rc : tT → Int32 → Int32 → Int32 → Int32 → Int32 → Option (tT × Int32)) (T : tT) (l1 : Int32) (l5 : Int32) (l6 : Int32) (l7 : Int32) (l8 : Int32) : Option (tT × Int32) :=
  if l6 ≤ l8 then
    kk T l1 l5 l6 l7 l8
  else
    (jt_Mo_parentKey T l7).bind fun p4 =>
    rc p4.1 l1 l5 l6 p4.2 (l8 + 1)
def jt_Mo_obtain_L131 (kk : tT → Int32 → Int32 → Int32 → Int32 → Int32 → Option (tT × Int32)) : Nat → tT → Int32 → Int32 → Int32 → Int32 → Int32 → Option (tT × Int32)
  | 0, _, _, _, _, _, _ => none
  | n + 1, T, l1, l5, l6, l7, l8 => jt_Mo_obtain_B131 kk (jt_Mo_obtain_L131 kk n) T l1 l5 l6 l7 l8
theorem ts_Mo_obtain_B131 {m : Nat} {ad : Nat → Nat} {p : tT × Int32} {kk : tT → Int32 → Int32 → Int32 → Int32 → Int32 → Option (tT × Int32)} {kj : q_S → Nat → Int32 → Int32 → Int32 → Int32 → Int32 → Option (q_S × Int32)} (hkk : ∀ (x : q_S) (T : tT) (l1 : Int32) (l5 : Int32) (l6 : Int32) (l7 : Int32) (l8 : Int32), tM x m ad T → kk T l1 l5 l6 l7 l8 = some p → tS m ad x p (kj x m l1 l5 l6 l7 l8)) {rc : tT → Int32 → Int32 → Int32 → Int32 → Int32 → Option (tT × Int32)} {rj : q_S → Nat → Int32 → Int32 → Int32 → Int32 → Int32 → Option (q_S × Int32)} (hrc : ∀ (x : q_S) (T : tT) (l1 : Int32) (l5 : Int32) (l6 : Int32) (l7 : Int32) (l8 : Int32), tM x m ad T → rc T l1 l5 l6 l7 l8 = some p → tS m ad x p (rj x m l1 l5 l6 l7 l8)) (x : q_S) (T : tT) (l1 : Int32) (l5 : Int32) (l6 : Int32) (l7 : Int32) (l8 : Int32) (hM : tM x m ad T) (hh : jt_Mo_obtain_B131 kk rc T l1 l5 l6 l7 l8 = some p) : tS m ad x p (jf_Mo_obtain_B131 kj rj x m l1 l5 l6 l7 l8) := by
  unfold jt_Mo_obtain_B131 at hh
  unfold jf_Mo_obtain_B131
  rcases q_ite hh with ⟨c7, hh⟩ | ⟨c7, hh⟩
  · refine s_ift c7 ?_
    exact hkk _ _ _ _ _ _ _ hM hh
  · refine s_iff c7 ?_
    obtain ⟨p4, e5, hh⟩ := q_bind hh
    refine s_av hM ?_
    refine s_call (ts_Mo_parentKey hM e5) (fun x6 hM => ?_)
    exact hrc _ _ _ _ _ _ _ hM hh
theorem ts_Mo_obtain_L131 {m : Nat} {ad : Nat → Nat} {p : tT × Int32} {kk : tT → Int32 → Int32 → Int32 → Int32 → Int32 → Option (tT × Int32)} {kj : q_S → Nat → Int32 → Int32 → Int32 → Int32 → Int32 → Option (q_S × Int32)} (hkk : ∀ (x : q_S) (T : tT) (l1 : Int32) (l5 : Int32) (l6 : Int32) (l7 : Int32) (l8 : Int32), tM x m ad T → kk T l1 l5 l6 l7 l8 = some p → tS m ad x p (kj x m l1 l5 l6 l7 l8)) : ∀ (n : Nat) (x : q_S) (T : tT) (l1 : Int32) (l5 : Int32) (l6 : Int32) (l7 : Int32) (l8 : Int32), tM x m ad T → jt_Mo_obtain_L131 kk n T l1 l5 l6 l7 l8 = some p → tS m ad x p (jf_Mo_obtain_L131 kj n x m l1 l5 l6 l7 l8)
  | 0, _, _, _, _, _, _, _, _, hh => nomatch hh
  | n + 1, x, T, l1, l5, l6, l7, l8, hM, hh => ts_Mo_obtain_B131 hkk (ts_Mo_obtain_L131 hkk n) x T l1 l5 l6 l7 l8 hM hh
def jt_Mo_obtain_B120 (rc : tT → Int32 → Int32 → Int32 → Option (tT × Int32)) (T : tT) (l1 : Int32) (l5 : Int32) (l6 : Int32) : Option (tT × Int32) :=
  if l6 < 0 then
    some (T, l5)
  else
    jt_Mo_obtain_L131 (fun y8 l1_8 l5_8 l6_8 l7_8 l8_8 =>
      (jt_Mo_build y8 l7_8 l5_8).bind fun p9 =>
      if 0 ≤ p9.2 then
        rc p9.1 l1_8 p9.2 (l6_8 + (-1))
      else
        some (p9.1, p9.2)
    ) lpK T l1 l5 l6 l1 0
def jt_Mo_obtain_L120 : Nat → tT → Int32 → Int32 → Int32 → Option (tT × Int32)
  | 0, _, _, _, _ => none
  | n + 1, T, l1, l5, l6 => jt_Mo_obtain_B120 (jt_Mo_obtain_L120 n) T l1 l5 l6
theorem ts_Mo_obtain_B120 {m : Nat} {ad : Nat → Nat} {p : tT × Int32} {rc : tT → Int32 → Int32 → Int32 → Option (tT × Int32)} {rj : q_S → Nat → Int32 → Int32 → Int32 → Option (q_S × Int32)} (hrc : ∀ (x : q_S) (T : tT) (l1 : Int32) (l5 : Int32) (l6 : Int32), tM x m ad T → rc T l1 l5 l6 = some p → tS m ad x p (rj x m l1 l5 l6)) (x : q_S) (T : tT) (l1 : Int32) (l5 : Int32) (l6 : Int32) (hM : tM x m ad T) (hh : jt_Mo_obtain_B120 rc T l1 l5 l6 = some p) : tS m ad x p (jf_Mo_obtain_B120 rj x m l1 l5 l6) := by
  unfold jt_Mo_obtain_B120 at hh
  unfold jf_Mo_obtain_B120
  rcases q_ite hh with ⟨c14, hh⟩ | ⟨c14, hh⟩
  · refine s_ift c14 ?_
    cases hh
    exact s_ret hM
  · refine s_iff c14 ?_
    refine ts_Mo_obtain_L131 (fun x13 y8 l1_8 l5_8 l6_8 l7_8 l8_8 hM hh => ?_) lpK _ _ _ _ _ _ _ hM hh
    obtain ⟨p9, e10, hh⟩ := q_bind hh
    refine s_av hM ?_
    refine s_call (ts_Mo_build hM e10) (fun x11 hM => ?_)
    rcases q_ite hh with ⟨c12, hh⟩ | ⟨c12, hh⟩
    · refine s_ift c12 ?_
      exact hrc _ _ _ _ _ hM hh
    · refine s_iff c12 ?_
      cases hh
      exact s_ret hM
theorem ts_Mo_obtain_L120 {m : Nat} {ad : Nat → Nat} {p : tT × Int32} : ∀ (n : Nat) (x : q_S) (T : tT) (l1 : Int32) (l5 : Int32) (l6 : Int32), tM x m ad T → jt_Mo_obtain_L120 n T l1 l5 l6 = some p → tS m ad x p (jf_Mo_obtain_L120 n x m l1 l5 l6)
  | 0, _, _, _, _, _, _, hh => nomatch hh
  | n + 1, x, T, l1, l5, l6, hM, hh => ts_Mo_obtain_B120 (ts_Mo_obtain_L120 n) x T l1 l5 l6 hM hh
def jt_Mo_obtain_B14 (rc : tT → Int32 → Int32 → Int32 → Int32 → Int32 → Option (tT × Int32)) (T : tT) (l1 : Int32) (l2 : Int32) (l3 : Int32) (l4 : Int32) (l5 : Int32) : Option (tT × Int32) :=
  if 4 ≤ l5 then
    if 0 ≤ l2 then
      if l4 < 0 then
        jt_Mo_obtain_L120 lpK T l1 l4 (l3 - 1)
      else
        (jt_Mo_use T l4).bind fun p15 =>
        jt_Mo_obtain_L120 lpK p15.1 l1 l4 (l3 - 1)
    else
      jt_Mo_obtain_L120 lpK T l1 (-1) (l3 - 1)
  else
    if 0 ≤ l4 then
      if 0 ≤ l2 then
        if l4 < 0 then
          jt_Mo_obtain_L120 lpK T l1 l4 (l3 - 1)
        else
          (jt_Mo_use T l4).bind fun p20 =>
          jt_Mo_obtain_L120 lpK p20.1 l1 l4 (l3 - 1)
      else
        jt_Mo_obtain_L120 lpK T l1 (-1) (l3 - 1)
    else
      (tl T 21 8 l2).bind fun v25 =>
      if v25 < 2 then
        (jt_Mo_parentKey T l2).bind fun p27 =>
        if 0 ≤ p27.2 then
          (jt_Mo_contextOf p27.1 p27.2).bind fun p30 =>
          if 0 ≤ p27.2 then
            if 0 ≤ p27.2 then
              rc p30.1 l1 p27.2 (l3 + 1) p30.2 (l5 + 1)
            else
              rc p30.1 l1 (-1) (l3 + 1) p30.2 (l5 + 1)
          else
            if 0 ≤ p27.2 then
              rc p30.1 l1 l2 (l3 + 1) p30.2 (l5 + 1)
            else
              rc p30.1 l1 (-1) (l3 + 1) p30.2 (l5 + 1)
        else
          if 0 ≤ p27.2 then
            if 0 ≤ p27.2 then
              rc p27.1 l1 p27.2 (l3 + 1) 0 (l5 + 1)
            else
              rc p27.1 l1 (-1) (l3 + 1) 0 (l5 + 1)
          else
            if 0 ≤ p27.2 then
              rc p27.1 l1 l2 (l3 + 1) 0 (l5 + 1)
            else
              rc p27.1 l1 (-1) (l3 + 1) 0 (l5 + 1)
      else
        some (T, (-8))
def jt_Mo_obtain_L14 : Nat → tT → Int32 → Int32 → Int32 → Int32 → Int32 → Option (tT × Int32)
  | 0, _, _, _, _, _, _ => none
  | n + 1, T, l1, l2, l3, l4, l5 => jt_Mo_obtain_B14 (jt_Mo_obtain_L14 n) T l1 l2 l3 l4 l5
theorem ts_Mo_obtain_B14 {m : Nat} {ad : Nat → Nat} {p : tT × Int32} {rc : tT → Int32 → Int32 → Int32 → Int32 → Int32 → Option (tT × Int32)} {rj : q_S → Nat → Int32 → Int32 → Int32 → Int32 → Int32 → Option (q_S × Int32)} (hrc : ∀ (x : q_S) (T : tT) (l1 : Int32) (l2 : Int32) (l3 : Int32) (l4 : Int32) (l5 : Int32), tM x m ad T → rc T l1 l2 l3 l4 l5 = some p → tS m ad x p (rj x m l1 l2 l3 l4 l5)) (x : q_S) (T : tT) (l1 : Int32) (l2 : Int32) (l3 : Int32) (l4 : Int32) (l5 : Int32) (hM : tM x m ad T) (hh : jt_Mo_obtain_B14 rc T l1 l2 l3 l4 l5 = some p) : tS m ad x p (jf_Mo_obtain_B14 rj x m l1 l2 l3 l4 l5) := by
  unfold jt_Mo_obtain_B14 at hh
  unfold jf_Mo_obtain_B14
  rcases q_ite hh with ⟨c42, hh⟩ | ⟨c42, hh⟩
  · refine s_ift c42 ?_
    rcases q_ite hh with ⟨c19, hh⟩ | ⟨c19, hh⟩
    · refine s_ift c19 ?_
      rcases q_ite hh with ⟨c18, hh⟩ | ⟨c18, hh⟩
      · refine s_ift c18 ?_
        exact ts_Mo_obtain_L120 lpK _ _ _ _ _ hM hh
      · refine s_iff c18 ?_
        obtain ⟨p15, e16, hh⟩ := q_bind hh
        refine s_av hM ?_
        refine s_call (ts_Mo_use hM e16) (fun x17 hM => ?_)
        exact ts_Mo_obtain_L120 lpK _ _ _ _ _ hM hh
    · refine s_iff c19 ?_
      exact ts_Mo_obtain_L120 lpK _ _ _ _ _ hM hh
  · refine s_iff c42 ?_
    rcases q_ite hh with ⟨c41, hh⟩ | ⟨c41, hh⟩
    · refine s_ift c41 ?_
      rcases q_ite hh with ⟨c24, hh⟩ | ⟨c24, hh⟩
      · refine s_ift c24 ?_
        rcases q_ite hh with ⟨c23, hh⟩ | ⟨c23, hh⟩
        · refine s_ift c23 ?_
          exact ts_Mo_obtain_L120 lpK _ _ _ _ _ hM hh
        · refine s_iff c23 ?_
          obtain ⟨p20, e21, hh⟩ := q_bind hh
          refine s_av hM ?_
          refine s_call (ts_Mo_use hM e21) (fun x22 hM => ?_)
          exact ts_Mo_obtain_L120 lpK _ _ _ _ _ hM hh
      · refine s_iff c24 ?_
        exact ts_Mo_obtain_L120 lpK _ _ _ _ _ hM hh
    · refine s_iff c41 ?_
      refine s_gR hM 21 15 rfl ?_
      obtain ⟨v25, e26, hh⟩ := q_bind hh
      refine s_lI hM 21 rfl e26 ?_
      rcases q_ite hh with ⟨c40, hh⟩ | ⟨c40, hh⟩
      · refine s_ift c40 ?_
        obtain ⟨p27, e28, hh⟩ := q_bind hh
        refine s_av hM ?_
        refine s_call (ts_Mo_parentKey hM e28) (fun x29 hM => ?_)
        rcases q_ite hh with ⟨c39, hh⟩ | ⟨c39, hh⟩
        · refine s_ift c39 ?_
          obtain ⟨p30, e31, hh⟩ := q_bind hh
          refine s_av hM ?_
          refine s_call (ts_Mo_contextOf hM e31) (fun x32 hM => ?_)
          rcases q_ite hh with ⟨c35, hh⟩ | ⟨c35, hh⟩
          · refine s_ift c35 ?_
            rcases q_ite hh with ⟨c33, hh⟩ | ⟨c33, hh⟩
            · refine s_ift c33 ?_
              exact hrc _ _ _ _ _ _ _ hM hh
            · refine s_iff c33 ?_
              exact hrc _ _ _ _ _ _ _ hM hh
          · refine s_iff c35 ?_
            rcases q_ite hh with ⟨c34, hh⟩ | ⟨c34, hh⟩
            · refine s_ift c34 ?_
              exact hrc _ _ _ _ _ _ _ hM hh
            · refine s_iff c34 ?_
              exact hrc _ _ _ _ _ _ _ hM hh
        · refine s_iff c39 ?_
          rcases q_ite hh with ⟨c38, hh⟩ | ⟨c38, hh⟩
          · refine s_ift c38 ?_
            rcases q_ite hh with ⟨c36, hh⟩ | ⟨c36, hh⟩
            · refine s_ift c36 ?_
              exact hrc _ _ _ _ _ _ _ hM hh
            · refine s_iff c36 ?_
              exact hrc _ _ _ _ _ _ _ hM hh
          · refine s_iff c38 ?_
            rcases q_ite hh with ⟨c37, hh⟩ | ⟨c37, hh⟩
            · refine s_ift c37 ?_
              exact hrc _ _ _ _ _ _ _ hM hh
            · refine s_iff c37 ?_
              exact hrc _ _ _ _ _ _ _ hM hh
      · refine s_iff c40 ?_
        cases hh
        exact s_ret hM
theorem ts_Mo_obtain_L14 {m : Nat} {ad : Nat → Nat} {p : tT × Int32} : ∀ (n : Nat) (x : q_S) (T : tT) (l1 : Int32) (l2 : Int32) (l3 : Int32) (l4 : Int32) (l5 : Int32), tM x m ad T → jt_Mo_obtain_L14 n T l1 l2 l3 l4 l5 = some p → tS m ad x p (jf_Mo_obtain_L14 n x m l1 l2 l3 l4 l5)
  | 0, _, _, _, _, _, _, _, _, hh => nomatch hh
  | n + 1, x, T, l1, l2, l3, l4, l5, hM, hh => ts_Mo_obtain_B14 (ts_Mo_obtain_L14 n) x T l1 l2 l3 l4 l5 hM hh
def jt_Mo_obtain (T : tT) (a1 : Int32) : Option (tT × Int32) :=
  (jt_Mo_contextOf T a1).bind fun p1 =>
  jt_Mo_obtain_L14 lpK p1.1 a1 a1 0 p1.2 0
theorem ts_Mo_obtain {m : Nat} {ad : Nat → Nat} {x : q_S} {T : tT} {a1 : Int32} {p : tT × Int32} (hM : tM x m ad T) (hh : jt_Mo_obtain T a1 = some p) : tS m ad x p (jf_Mo_obtain x m a1) := by
  unfold jt_Mo_obtain at hh
  unfold jf_Mo_obtain
  obtain ⟨p1, e2, hh⟩ := q_bind hh
  refine s_av hM ?_
  refine s_call (ts_Mo_contextOf hM e2) (fun x3 hM => ?_)
  exact ts_Mo_obtain_L14 lpK _ _ _ _ _ _ _ hM hh
-- request(I)I
def jt_Mo_request (T : tT) (a1 : Int32) : Option (tT × Int32) :=
  if (tf T 22) = 0 then
    (jt_Mo_isConfiguration T a1).bind fun p1 =>
    if p1.2 = 0 then
      some (p1.1, (-1))
    else
      (jt_Mo_key p1.1 a1).bind fun p4 =>
      (jt_Mo_obtain p4.1 p4.2).bind fun p7 =>
      some (p7.1, p7.2)
  else
    some (T, (-1))
theorem ts_Mo_request {m : Nat} {ad : Nat → Nat} {x : q_S} {T : tT} {a1 : Int32} {p : tT × Int32} (hM : tM x m ad T) (hh : jt_Mo_request T a1 = some p) : tS m ad x p (jf_Mo_request x m a1) := by
  unfold jt_Mo_request at hh
  unfold jf_Mo_request
  refine s_gI hM 22 rfl ?_
  rcases q_ite hh with ⟨c11, hh⟩ | ⟨c11, hh⟩
  · refine s_ift c11 ?_
    obtain ⟨p1, e2, hh⟩ := q_bind hh
    refine s_av hM ?_
    refine s_call (ts_Mo_isConfiguration hM e2) (fun x3 hM => ?_)
    rcases q_ite hh with ⟨c10, hh⟩ | ⟨c10, hh⟩
    · refine s_ift c10 ?_
      cases hh
      exact s_ret hM
    · refine s_iff c10 ?_
      obtain ⟨p4, e5, hh⟩ := q_bind hh
      refine s_av hM ?_
      refine s_call (ts_Mo_key hM e5) (fun x6 hM => ?_)
      obtain ⟨p7, e8, hh⟩ := q_bind hh
      refine s_av hM ?_
      refine s_call (ts_Mo_obtain hM e8) (fun x9 hM => ?_)
      cases hh
      exact s_ret hM
  · refine s_iff c11 ?_
    cases hh
    exact s_ret hM
-- reset(I)I
def jt_Mo_reset_B17 (rc : tT → Int32 → Int32 → Int32 → Option (tT × Int32)) (T : tT) (l2 : Int32) (l3 : Int32) (l4 : Int32) : Option (tT × Int32) :=
  if (tf T 23) ≤ l4 then
    some (T, l3)
  else
    (jt_Mo_live T l4).bind fun p4 =>
    if p4.2 = 0 then
      rc p4.1 l2 l3 (l4 + 1)
    else
      (tl p4.1 102 300 l4).bind fun v7 =>
      if v7 = 0 then
        rc p4.1 l2 l3 (l4 + 1)
      else
        (tl p4.1 25 300 l4).bind fun v9 =>
        if v9 = l2 then
          (tw p4.1 28 300 l4 0).bind fun T11 =>
          (tw T11 29 300 l4 0).bind fun T14 =>
          (tw T14 30 300 l4 0).bind fun T17 =>
          rc T17 l2 (l3 + 1) (l4 + 1)
        else
          (tl p4.1 25 300 l4).bind fun v20 =>
          (jt_Mo_isAbove p4.1 v20 l2).bind fun p22 =>
          if p22.2 = 0 then
            rc p22.1 l2 l3 (l4 + 1)
          else
            (tw p22.1 28 300 l4 0).bind fun T25 =>
            (tw T25 29 300 l4 0).bind fun T28 =>
            (tw T28 30 300 l4 0).bind fun T31 =>
            rc T31 l2 (l3 + 1) (l4 + 1)
def jt_Mo_reset_L17 : Nat → tT → Int32 → Int32 → Int32 → Option (tT × Int32)
  | 0, _, _, _, _ => none
  | n + 1, T, l2, l3, l4 => jt_Mo_reset_B17 (jt_Mo_reset_L17 n) T l2 l3 l4
theorem ts_Mo_reset_B17 {m : Nat} {ad : Nat → Nat} {p : tT × Int32} {rc : tT → Int32 → Int32 → Int32 → Option (tT × Int32)} {rj : q_S → Nat → Int32 → Int32 → Int32 → Option (q_S × Int32)} (hrc : ∀ (x : q_S) (T : tT) (l2 : Int32) (l3 : Int32) (l4 : Int32), tM x m ad T → rc T l2 l3 l4 = some p → tS m ad x p (rj x m l2 l3 l4)) (x : q_S) (T : tT) (l2 : Int32) (l3 : Int32) (l4 : Int32) (hM : tM x m ad T) (hh : jt_Mo_reset_B17 rc T l2 l3 l4 = some p) : tS m ad x p (jf_Mo_reset_B17 rj x m l2 l3 l4) := by
  unfold jt_Mo_reset_B17 at hh
  unfold jf_Mo_reset_B17
  refine s_gI hM 23 rfl ?_
  rcases q_ite hh with ⟨c38, hh⟩ | ⟨c38, hh⟩
  · refine s_ift c38 ?_
    cases hh
    exact s_ret hM
  · refine s_iff c38 ?_
    obtain ⟨p4, e5, hh⟩ := q_bind hh
    refine s_av hM ?_
    refine s_call (ts_Mo_live hM e5) (fun x6 hM => ?_)
    rcases q_ite hh with ⟨c37, hh⟩ | ⟨c37, hh⟩
    · refine s_ift c37 ?_
      exact hrc _ _ _ _ _ hM hh
    · refine s_iff c37 ?_
      refine s_gR hM 102 26 rfl ?_
      obtain ⟨v7, e8, hh⟩ := q_bind hh
      refine s_lI hM 102 rfl e8 ?_
      rcases q_ite hh with ⟨c36, hh⟩ | ⟨c36, hh⟩
      · refine s_ift c36 ?_
        exact hrc _ _ _ _ _ hM hh
      · refine s_iff c36 ?_
        refine s_gR hM 25 24 rfl ?_
        obtain ⟨v9, e10, hh⟩ := q_bind hh
        refine s_lI hM 25 rfl e10 ?_
        rcases q_ite hh with ⟨c35, hh⟩ | ⟨c35, hh⟩
        · refine s_ift c35 ?_
          refine s_gR hM 28 29 rfl ?_
          obtain ⟨T11, e12, hh⟩ := q_bind hh
          refine s_sI hM 28 rfl e12 (fun x13 hM => ?_)
          refine s_gR hM 29 30 rfl ?_
          obtain ⟨T14, e15, hh⟩ := q_bind hh
          refine s_sI hM 29 rfl e15 (fun x16 hM => ?_)
          refine s_gR hM 30 31 rfl ?_
          obtain ⟨T17, e18, hh⟩ := q_bind hh
          refine s_sI hM 30 rfl e18 (fun x19 hM => ?_)
          exact hrc _ _ _ _ _ hM hh
        · refine s_iff c35 ?_
          refine s_gR hM 25 24 rfl ?_
          obtain ⟨v20, e21, hh⟩ := q_bind hh
          refine s_lI hM 25 rfl e21 ?_
          obtain ⟨p22, e23, hh⟩ := q_bind hh
          refine s_av hM ?_
          refine s_call (ts_Mo_isAbove hM e23) (fun x24 hM => ?_)
          rcases q_ite hh with ⟨c34, hh⟩ | ⟨c34, hh⟩
          · refine s_ift c34 ?_
            exact hrc _ _ _ _ _ hM hh
          · refine s_iff c34 ?_
            refine s_gR hM 28 29 rfl ?_
            obtain ⟨T25, e26, hh⟩ := q_bind hh
            refine s_sI hM 28 rfl e26 (fun x27 hM => ?_)
            refine s_gR hM 29 30 rfl ?_
            obtain ⟨T28, e29, hh⟩ := q_bind hh
            refine s_sI hM 29 rfl e29 (fun x30 hM => ?_)
            refine s_gR hM 30 31 rfl ?_
            obtain ⟨T31, e32, hh⟩ := q_bind hh
            refine s_sI hM 30 rfl e32 (fun x33 hM => ?_)
            exact hrc _ _ _ _ _ hM hh
theorem ts_Mo_reset_L17 {m : Nat} {ad : Nat → Nat} {p : tT × Int32} : ∀ (n : Nat) (x : q_S) (T : tT) (l2 : Int32) (l3 : Int32) (l4 : Int32), tM x m ad T → jt_Mo_reset_L17 n T l2 l3 l4 = some p → tS m ad x p (jf_Mo_reset_L17 n x m l2 l3 l4)
  | 0, _, _, _, _, _, _, hh => nomatch hh
  | n + 1, x, T, l2, l3, l4, hM, hh => ts_Mo_reset_B17 (ts_Mo_reset_L17 n) x T l2 l3 l4 hM hh
def jt_Mo_reset (T : tT) (a1 : Int32) : Option (tT × Int32) :=
  (jt_Mo_cachedFor T a1).bind fun p1 =>
  if 0 ≤ p1.2 then
    jt_Mo_reset_L17 lpK p1.1 p1.2 0 0
  else
    some (p1.1, (-1))
theorem ts_Mo_reset {m : Nat} {ad : Nat → Nat} {x : q_S} {T : tT} {a1 : Int32} {p : tT × Int32} (hM : tM x m ad T) (hh : jt_Mo_reset T a1 = some p) : tS m ad x p (jf_Mo_reset x m a1) := by
  unfold jt_Mo_reset at hh
  unfold jf_Mo_reset
  obtain ⟨p1, e2, hh⟩ := q_bind hh
  refine s_av hM ?_
  refine s_call (ts_Mo_cachedFor hM e2) (fun x3 hM => ?_)
  rcases q_ite hh with ⟨c39, hh⟩ | ⟨c39, hh⟩
  · refine s_ift c39 ?_
    exact ts_Mo_reset_L17 lpK _ _ _ _ _ hM hh
  · refine s_iff c39 ?_
    cases hh
    exact s_ret hM
-- shutdown()I
def jt_Mo_shutdown_B14 (rc : tT → Int32 → Int32 → Option (tT × Int32)) (T : tT) (l1 : Int32) (l2 : Int32) : Option (tT × Int32) :=
  if l2 < 0 then
    some (T, l1)
  else
    (tl T 101 30 l2).bind fun v4 =>
    if v4 = 0 then
      rc T l1 (l2 + (-1))
    else
      (jt_Mo_close T l2).bind fun p6 =>
      rc p6.1 (l1 + p6.2) (l2 + (-1))
def jt_Mo_shutdown_L14 : Nat → tT → Int32 → Int32 → Option (tT × Int32)
  | 0, _, _, _ => none
  | n + 1, T, l1, l2 => jt_Mo_shutdown_B14 (jt_Mo_shutdown_L14 n) T l1 l2
theorem ts_Mo_shutdown_B14 {m : Nat} {ad : Nat → Nat} {p : tT × Int32} {rc : tT → Int32 → Int32 → Option (tT × Int32)} {rj : q_S → Nat → Int32 → Int32 → Option (q_S × Int32)} (hrc : ∀ (x : q_S) (T : tT) (l1 : Int32) (l2 : Int32), tM x m ad T → rc T l1 l2 = some p → tS m ad x p (rj x m l1 l2)) (x : q_S) (T : tT) (l1 : Int32) (l2 : Int32) (hM : tM x m ad T) (hh : jt_Mo_shutdown_B14 rc T l1 l2 = some p) : tS m ad x p (jf_Mo_shutdown_B14 rj x m l1 l2) := by
  unfold jt_Mo_shutdown_B14 at hh
  unfold jf_Mo_shutdown_B14
  rcases q_ite hh with ⟨c10, hh⟩ | ⟨c10, hh⟩
  · refine s_ift c10 ?_
    cases hh
    exact s_ret hM
  · refine s_iff c10 ?_
    refine s_gR hM 101 19 rfl ?_
    obtain ⟨v4, e5, hh⟩ := q_bind hh
    refine s_lI hM 101 rfl e5 ?_
    rcases q_ite hh with ⟨c9, hh⟩ | ⟨c9, hh⟩
    · refine s_ift c9 ?_
      exact hrc _ _ _ _ hM hh
    · refine s_iff c9 ?_
      obtain ⟨p6, e7, hh⟩ := q_bind hh
      refine s_av hM ?_
      refine s_call (ts_Mo_close hM e7) (fun x8 hM => ?_)
      exact hrc _ _ _ _ hM hh
theorem ts_Mo_shutdown_L14 {m : Nat} {ad : Nat → Nat} {p : tT × Int32} : ∀ (n : Nat) (x : q_S) (T : tT) (l1 : Int32) (l2 : Int32), tM x m ad T → jt_Mo_shutdown_L14 n T l1 l2 = some p → tS m ad x p (jf_Mo_shutdown_L14 n x m l1 l2)
  | 0, _, _, _, _, _, hh => nomatch hh
  | n + 1, x, T, l1, l2, hM, hh => ts_Mo_shutdown_B14 (ts_Mo_shutdown_L14 n) x T l1 l2 hM hh
def jt_Mo_shutdown (T : tT)  : Option (tT × Int32) :=
  (tpz T 22 1).bind fun T1 =>
  jt_Mo_shutdown_L14 lpK T1 0 ((tf T1 16) - 1)
theorem ts_Mo_shutdown {m : Nat} {ad : Nat → Nat} {x : q_S} {T : tT}  {p : tT × Int32} (hM : tM x m ad T) (hh : jt_Mo_shutdown T  = some p) : tS m ad x p (jf_Mo_shutdown x m ) := by
  unfold jt_Mo_shutdown at hh
  unfold jf_Mo_shutdown
  obtain ⟨T1, e2, hh⟩ := q_bind hh
  refine s_pZ hM 22 rfl e2 (fun x3 hM => ?_)
  refine s_gI hM 16 rfl ?_
  exact ts_Mo_shutdown_L14 lpK _ _ _ _ hM hh
-- stub(II)Z
def jt_Mo_stub (T : tT) (a1 : Int32) (a2 : Int32) : Option (tT × Int32) :=
  (jt_Mo_live T a1).bind fun p1 =>
  if p1.2 = 0 then
    some (p1.1, 0)
  else
    (tl p1.1 102 300 a1).bind fun v4 =>
    if v4 = 0 then
      some (p1.1, 0)
    else
      (tw p1.1 28 300 a1 a2).bind fun T6 =>
      some (T6, 1)
theorem ts_Mo_stub {m : Nat} {ad : Nat → Nat} {x : q_S} {T : tT} {a1 : Int32} {a2 : Int32} {p : tT × Int32} (hM : tM x m ad T) (hh : jt_Mo_stub T a1 a2 = some p) : tS m ad x p (jf_Mo_stub x m a1 a2) := by
  unfold jt_Mo_stub at hh
  unfold jf_Mo_stub
  obtain ⟨p1, e2, hh⟩ := q_bind hh
  refine s_av hM ?_
  refine s_call (ts_Mo_live hM e2) (fun x3 hM => ?_)
  rcases q_ite hh with ⟨c10, hh⟩ | ⟨c10, hh⟩
  · refine s_ift c10 ?_
    cases hh
    exact s_ret hM
  · refine s_iff c10 ?_
    refine s_gR hM 102 26 rfl ?_
    obtain ⟨v4, e5, hh⟩ := q_bind hh
    refine s_lI hM 102 rfl e5 ?_
    rcases q_ite hh with ⟨c9, hh⟩ | ⟨c9, hh⟩
    · refine s_ift c9 ?_
      cases hh
      exact s_ret hM
    · refine s_iff c9 ?_
      refine s_gR hM 28 29 rfl ?_
      obtain ⟨T6, e7, hh⟩ := q_bind hh
      refine s_sI hM 28 rfl e7 (fun x8 hM => ?_)
      cases hh
      exact s_ret hM
-- wired(II)I
def jt_Mo_wired (T : tT) (a1 : Int32) (a2 : Int32) : Option (tT × Int32) :=
  (jt_Mo_live T a1).bind fun p1 =>
  if p1.2 = 0 then
    some (p1.1, (-1))
  else
    (jt_Mo_in p1.1 a2 0 2).bind fun p4 =>
    if p4.2 = 0 then
      some (p4.1, (-1))
    else
      (tl p4.1 27 900 (((3 : Int32) * a1) + a2)).bind fun v7 =>
      some (p4.1, v7)
theorem ts_Mo_wired {m : Nat} {ad : Nat → Nat} {x : q_S} {T : tT} {a1 : Int32} {a2 : Int32} {p : tT × Int32} (hM : tM x m ad T) (hh : jt_Mo_wired T a1 a2 = some p) : tS m ad x p (jf_Mo_wired x m a1 a2) := by
  unfold jt_Mo_wired at hh
  unfold jf_Mo_wired
  obtain ⟨p1, e2, hh⟩ := q_bind hh
  refine s_av hM ?_
  refine s_call (ts_Mo_live hM e2) (fun x3 hM => ?_)
  rcases q_ite hh with ⟨c10, hh⟩ | ⟨c10, hh⟩
  · refine s_ift c10 ?_
    cases hh
    exact s_ret hM
  · refine s_iff c10 ?_
    obtain ⟨p4, e5, hh⟩ := q_bind hh
    refine s_call (ts_Mo_in hM e5) (fun x6 hM => ?_)
    rcases q_ite hh with ⟨c9, hh⟩ | ⟨c9, hh⟩
    · refine s_ift c9 ?_
      cases hh
      exact s_ret hM
    · refine s_iff c9 ?_
      refine s_gR hM 27 28 rfl ?_
      obtain ⟨v7, e8, hh⟩ := q_bind hh
      refine s_lI hM 27 rfl e8 ?_
      cases hh
      exact s_ret hM
