/-! What is being made: the reference's stack, the class's open sets. -/
def chn (T : tT) (c0 c : Nat) : Prop := c = c0 ∨ isUp T c c0
def tC (T T' : tT) : Prop := (∀ k, [23, 32, 37, 38].contains k = false → T'.1 k = T.1 k) ∧ ∀ t, [25, 26, 27, 102, 31, 32, 33, 34, 35].contains t = false → T'.2 t = T.2 t
theorem tC.rf (T : tT) : tC T T := ⟨fun _ _ => rfl, fun _ _ => rfl⟩
theorem tC.tr {T T' T'' : tT} (h : tC T T') (g : tC T' T'') : tC T T'' := ⟨fun k hk => (g.1 k hk).trans (h.1 k hk), fun t ht => (g.2 t ht).trans (h.2 t ht)⟩
theorem tC.o {T T' : tT} (h : tC T T') (d : Nat) : tO T' 23 d = tO T 23 d := by unfold tO tV; rw [h.2 23 (by decide)]
theorem tC.n {T T' : tT} (h : tC T T') {k : Nat} (hk : [23, 32, 37, 38].contains k = false) : tN T' k = tN T k := by unfold tN; rw [h.1 k hk]
theorem tC.v {T T' : tT} (h : tC T T') {t : Nat} (ht : [25, 26, 27, 102, 31, 32, 33, 34, 35].contains t = false) (i : Nat) : tV T' t i = tV T t i := by unfold tV; rw [h.2 t ht]
theorem tC.ch {T T' : tT} (h : tC T T') {c0 c : Nat} : chn T' c0 c ↔ chn T c0 c := by
  unfold chn isUp
  rw [h.o]
  constructor
  · rintro (z | z | ⟨u, z1, z2⟩)
    · exact Or.inl z
    · exact Or.inr (Or.inl z)
    · exact Or.inr (Or.inr ⟨u, z1, by rw [← h.o]; exact z2⟩)
  · rintro (z | z | ⟨u, z1, z2⟩)
    · exact Or.inl z
    · exact Or.inr (Or.inl z)
    · exact Or.inr (Or.inr ⟨u, z1, by rw [h.o]; exact z2⟩)
/-- the stack is as before -/
def sS (k : Nat) (T T' : tT) : Prop := T'.1 32 = T.1 32 ∧ (∀ j, j < k → T'.2 31 j = T.2 31 j ∧ T'.2 32 j = T.2 32 j ∧ T'.2 33 j = T.2 33 j) ∧ ∀ j, j < 3 * k → T'.2 34 j = T.2 34 j
def Stk (T : tT) (v : Nat → Nat → Int32) (c0 k : Nat) : Prop := T.1 32 = nI k ∧ (∀ j, j < k → T.2 31 j = nI (tV T 31 j) ∧ T.2 32 j = nI (tV T 32 j) ∧ chn T c0 (tV T 31 j) ∧ tV T 32 j < tN T 2 ∧ ¬ hs (T.2 19 (tV T 22 (tV T 31 j))) (tV T 32 j)) ∧ (∀ i j, i < k → j < k → tV T 31 i = tV T 31 j → tV T 32 i = tV T 32 j → i = j) ∧ ∀ c d, c < tN T 16 → d < 10 → (hs (v 0 c) d ↔ ∃ j, j < k ∧ tV T 31 j = c ∧ tV T 32 j = d)
theorem Stk.fr {T T' : tT} {v : Nat → Nat → Int32} {c0 k : Nat} (h : Stk T v c0 k) (g : tC T T') (s : sS k T T') : Stk T' v c0 k := by
  obtain ⟨h1, h2, h3, h4⟩ := h
  obtain ⟨s1, s2, s3⟩ := s
  have e31 : ∀ j, j < k → tV T' 31 j = tV T 31 j := fun j hj => by unfold tV; rw [(s2 j hj).1]
  have e32 : ∀ j, j < k → tV T' 32 j = tV T 32 j := fun j hj => by unfold tV; rw [(s2 j hj).2.1]
  refine ⟨s1.trans h1, fun j hj => ?_, fun i j hi hj => ?_, fun c d hc hd => ?_⟩
  · rw [e31 j hj, e32 j hj, (s2 j hj).1, (s2 j hj).2.1, g.ch, g.n (by decide), g.v (t := 22) (by decide), g.2 19 (by decide)]
    exact h2 j hj
  · rw [e31 i hi, e31 j hj, e32 i hi, e32 j hj]
    exact h3 i j hi hj
  · rw [g.n (by decide)] at hc
    rw [h4 c d hc hd]
    constructor
    · rintro ⟨j, j1, j2, j3⟩
      exact ⟨j, j1, by rw [e31 j j1]; exact j2, by rw [e32 j j1]; exact j3⟩
    · rintro ⟨j, j1, j2, j3⟩
      exact ⟨j, j1, by rw [← e31 j j1]; exact j2, by rw [← e32 j j1]; exact j3⟩
theorem nd_le : ∀ (n : Nat) (l : List Nat), l.Nodup → (∀ a, a ∈ l → a < n) → l.length ≤ n
  | 0, l, _, h => by
    cases l with
    | nil => exact Nat.le_refl _
    | cons a l => exact absurd (h a (List.mem_cons_self)) (Nat.not_lt_zero a)
  | n + 1, l, hn, h => by
    have := nd_le n (l.erase n) (hn.erase n) (fun a ha => by
      have h1 := (hn.mem_erase_iff).mp ha
      have := h a h1.2
      have := h1.1
      omega)
    by_cases hm : n ∈ l
    · rw [List.length_erase_of_mem hm] at this; omega
    · rw [List.erase_of_not_mem hm] at this; omega
section SK
variable {x y : q_S} {A : Nat → Nat} {T : tT} {E : Nat} {ab : Nat → Nat → Nat} {L : Nat → Option (List Nat)} {O : List Nat} {v sg : Nat → Nat → Int32} {rp : Nat → Nat}
theorem chn_up (hp : pI T E O v sg rp) {c0 c u : Nat} (hc0 : c0 < tN T 16) (h : chn T c0 c) (hu : tO T 23 c = some u) : chn T c0 u := by
  rcases h with rfl | h | ⟨w, h1, h2⟩
  · exact Or.inr (Or.inl hu)
  · exact Or.inr (Or.inr ⟨c, h, hu⟩)
  · have := top3 hp hc0 h1 h2
    rw [hu] at this; cases this
theorem chn_lt (hp : pI T E O v sg rp) {c0 c : Nat} (hc0 : c0 < tN T 16) (h : chn T c0 c) : c < tN T 16 := by
  rcases h with rfl | h
  · exact hc0
  · have := isUp_lt hp hc0 h; omega
/-- where in the chain -/
def rk (T : tT) (c0 c : Nat) : Nat := if c = c0 then 0 else if tO T 23 c0 = some c then 1 else 2
theorem rk_inj {c0 c d : Nat} (h1 : chn T c0 c) (h2 : chn T c0 d) (h : rk T c0 c = rk T c0 d) : c = d := by
  unfold rk at h
  by_cases e1 : c = c0
  · rw [if_pos e1] at h
    by_cases e2 : d = c0
    · rw [e1, e2]
    · rw [if_neg e2] at h; split at h <;> omega
  · rw [if_neg e1] at h
    by_cases e2 : d = c0
    · rw [if_pos e2] at h; split at h <;> omega
    · rw [if_neg e2] at h
      by_cases f1 : tO T 23 c0 = some c
      · rw [if_pos f1] at h
        by_cases f2 : tO T 23 c0 = some d
        · rw [f1] at f2; exact Option.some.inj f2
        · rw [if_neg f2] at h; omega
      · rw [if_neg f1] at h
        by_cases f2 : tO T 23 c0 = some d
        · rw [if_pos f2] at h; omega
        · rcases h1 with z | z | ⟨u, u1, u2⟩
          · exact absurd z e1
          · exact absurd z f1
          · rcases h2 with z | z | ⟨w, w1, w2⟩
            · exact absurd z e2
            · exact absurd z f2
            · rw [u1] at w1; cases w1; rw [u2] at w2; exact Option.some.inj w2
theorem rk_3 (T : tT) (c0 c : Nat) : rk T c0 c < 3 := by unfold rk; split; omega; split <;> omega
theorem stk_30 {c0 k : Nat} (h : Stk T v c0 k) (h10 : tN T 2 ≤ 10) : k ≤ 30 ∧ (k = 30 → ∀ c d, chn T c0 c → d < 10 → ∃ j, j < k ∧ tV T 31 j = c ∧ tV T 32 j = d) := by
  obtain ⟨-, h2, h3, -⟩ := h
  let f : Nat → Nat := fun j => 10 * rk T c0 (tV T 31 j) + tV T 32 j
  have fl : ∀ j, j < k → f j < 30 := fun j hj => by
    have := rk_3 T c0 (tV T 31 j)
    have := (h2 j hj).2.2.2.1
    show 10 * rk T c0 (tV T 31 j) + tV T 32 j < 30
    omega
  have fi : ∀ c d c' d', chn T c0 c → chn T c0 c' → d < 10 → d' < 10 → 10 * rk T c0 c + d = 10 * rk T c0 c' + d' → c = c' ∧ d = d' := fun c d c' d' hc hc' hd hd' e => by
    have : rk T c0 c = rk T c0 c' := by omega
    exact ⟨rk_inj hc hc' this, by omega⟩
  have nd : ((List.range k).map f).Nodup := by
    refine List.pairwise_map.mpr (List.Pairwise.imp_of_mem ?_ List.pairwise_lt_range)
    intro a b ha hb hab z
    have ha := List.mem_range.mp ha
    have hb := List.mem_range.mp hb
    obtain ⟨-, -, a1, a2, -⟩ := h2 a ha
    obtain ⟨-, -, b1, b2, -⟩ := h2 b hb
    obtain ⟨e1, e2⟩ := fi _ _ _ _ a1 b1 (by omega) (by omega) z
    have := h3 a b ha hb e1 e2
    omega
  have mem : ∀ z, z ∈ (List.range k).map f → z < 30 := fun z hz => by
    obtain ⟨j, j1, rfl⟩ := List.mem_map.mp hz
    exact fl j (List.mem_range.mp j1)
  have l1 := nd_le 30 _ nd mem
  rw [List.length_map, List.length_range] at l1
  refine ⟨l1, fun hk c d hc hd => Classical.byContradiction (fun hno => ?_)⟩
  have hni : 10 * rk T c0 c + d ∉ (List.range k).map f := fun z => by
    obtain ⟨j, j1, j2⟩ := List.mem_map.mp z
    have j1 := List.mem_range.mp j1
    obtain ⟨-, -, a1, a2, -⟩ := h2 j j1
    obtain ⟨e1, e2⟩ := fi _ _ _ _ a1 hc (by omega) hd j2
    exact hno ⟨j, j1, e1, e2⟩
  have l2 := nd_le 30 ((10 * rk T c0 c + d) :: (List.range k).map f) (List.nodup_cons.mpr ⟨hni, nd⟩) (fun z hz => by
    rcases List.mem_cons.mp hz with rfl | hz
    · have := rk_3 T c0 c; omega
    · exact mem z hz)
  rw [List.length_cons, List.length_map, List.length_range] at l2
  omega
theorem bnOf_eq (hp : pI T E O v sg rp) {c d : Nat} {o : Option Nat} (hc : c < 30) (hd : d < 10) (ho : ∀ b, (o = some b ↔ b < tN T 23 ∧ tV T 25 b = c ∧ tV T 26 b = d)) : jt_Mo_beanOf T (nI c) (nI d) = some (T, oI o) := by
  have h200 := hp.1.2.2.2.1.2
  have h30 := hp.1.2.2.1.2
  have h10 := hp.1.1.2
  have e23 : tf T 23 = nI (tN T 23) := hp.1.2.2.2.1.1
  have key : ∀ (m r i : Nat), i + r = tN T 23 → r < m → (∀ b, b < i → o ≠ some b) → jt_Mo_beanOf_L2 m T (nI c) (nI d) (nI i) = some (T, oI o) := by
    intro m
    induction m with
    | zero => intro r i _ h; omega
    | succ m ih =>
      intro r i hri hm hno
      show jt_Mo_beanOf_B2 (jt_Mo_beanOf_L2 m) T (nI c) (nI d) (nI i) = _
      unfold jt_Mo_beanOf_B2
      rw [e23]
      cases r with
      | zero =>
        rw [if_pos (nI_le (by omega) (by omega))]
        cases e : o with
        | none => rfl
        | some b => exact absurd e (hno b (by have := ((ho b).mp e).1; omega))
      | succ r =>
        have hb : i < tN T 23 := by omega
        obtain ⟨⟨q1, q2⟩, ⟨q3, q4⟩, -⟩ := hp.2.2.2.2.2.1.1 i hb
        have nx : o ≠ some i → jt_Mo_beanOf_L2 m T (nI c) (nI d) (nI (i + 1)) = some (T, oI o) := fun h => ih r (i + 1) (by omega) (by omega) (fun b hb => by
          by_cases e : b = i
          · rw [e]; exact h
          · exact hno b (by omega))
        rw [if_neg (nI_ge hb (by omega)), tl_n (by omega) (by decide), Option.bind_some, q1, nI_1]
        by_cases e1 : tV T 25 i = c
        · rw [if_pos (by rw [e1]), tl_n (by omega) (by decide), Option.bind_some, q3]
          by_cases e2 : tV T 26 i = d
          · rw [if_pos (by rw [e2]), (ho i).mpr ⟨hb, e1, e2⟩]; rfl
          · rw [if_neg (fun z => e2 ((nI_eq (by omega) (by omega)).mp z))]
            exact nx (fun z => e2 ((ho i).mp z).2.2)
        · rw [if_neg (fun z => e1 ((nI_eq (by omega) (by omega)).mp z))]
          exact nx (fun z => e1 ((ho i).mp z).2.1)
  exact key lpK (tN T 23) 0 (Nat.zero_add _) (by unfold lpK; omega) (fun b hb => absurd hb (Nat.not_lt_zero b))
/-- the stack with one more -/
def tPu (T : tT) (k : Nat) (c d : Int32) : tT := tp (tset (tset (tset T 31 (upd (T.2 31) k c)) 32 (upd (T.2 32) k d)) 33 (upd (T.2 33) k 0)) 32 (nI (k + 1))
theorem st46_eq {c0 k c d : Nat} (hp : pI T E O v sg rp) (hs0 : Stk T v c0 k) (hk : k ≤ 30) (hc0 : c0 < tN T 16) (hc : c < tN T 16) (hd : d < tN T 2) : (hs (v 0 c) d ∧ jt_Mo_start_L46 lpK T (nI c) (nI d) 0 = some (T, -5)) ∨ (¬ hs (v 0 c) d ∧ jt_Mo_start_L46 lpK T (nI c) (nI d) 0 = some (tPu T k (nI c) (nI d), -1)) := by
  have h30 := hp.1.2.2.1.2
  have h10 := hp.1.1.2
  obtain ⟨h1, h2, h3, h4⟩ := hs0
  have e32 : tf T 32 = nI k := h1
  have key : ∀ (m r i : Nat), i + r = k → r < m → (∀ j, j < i → ¬ (tV T 31 j = c ∧ tV T 32 j = d)) → (hs (v 0 c) d ∧ jt_Mo_start_L46 m T (nI c) (nI d) (nI i) = some (T, -5)) ∨ (¬ hs (v 0 c) d ∧ jt_Mo_start_L46 m T (nI c) (nI d) (nI i) = some (tPu T k (nI c) (nI d), -1)) := by
    intro m
    induction m with
    | zero => intro r i _ h; omega
    | succ m ih =>
      intro r i hri hm hno
      show (_ ∧ jt_Mo_start_B46 (jt_Mo_start_L46 m) T (nI c) (nI d) (nI i) = _) ∨ (_ ∧ jt_Mo_start_B46 (jt_Mo_start_L46 m) T (nI c) (nI d) (nI i) = _)
      unfold jt_Mo_start_B46
      rw [e32]
      cases r with
      | zero =>
        refine Or.inr ⟨fun z => ?_, ?_⟩
        · obtain ⟨j, j1, j2, j3⟩ := (h4 c d hc (by omega)).mp z
          exact hno j (by omega) ⟨j2, j3⟩
        · rw [if_pos (nI_le (by omega) (by omega)), tw_n (by omega) (by decide), Option.bind_some, tset_f, e32, tw_n (by omega) (by decide), Option.bind_some, tset_f, tset_f, e32, tw_n (by omega) (by decide), Option.bind_some, tset_f, tset_f, tset_f, e32, nI_1]
          rfl
      | succ r =>
        have hi : i < k := by omega
        obtain ⟨a1, a2, a3, a4, -⟩ := h2 i hi
        have l1 := chn_lt hp hc0 a3
        have nx : ¬ (tV T 31 i = c ∧ tV T 32 i = d) → (hs (v 0 c) d ∧ jt_Mo_start_L46 m T (nI c) (nI d) (nI (i + 1)) = some (T, -5)) ∨ (¬ hs (v 0 c) d ∧ jt_Mo_start_L46 m T (nI c) (nI d) (nI (i + 1)) = some (tPu T k (nI c) (nI d), -1)) := fun h => ih r (i + 1) (by omega) (by omega) (fun j hj => by
          by_cases e : j = i
          · rw [e]; exact h
          · exact hno j (by omega))
        rw [if_neg (nI_ge hi (by omega)), tl_n (by omega) (by decide), Option.bind_some, a1, nI_1]
        by_cases e1 : tV T 31 i = c
        · rw [if_pos (by rw [e1]), tl_n (by omega) (by decide), Option.bind_some, a2]
          by_cases e2 : tV T 32 i = d
          · rw [if_pos (by rw [e2])]
            exact Or.inl ⟨(h4 c d hc (by omega)).mpr ⟨i, hi, e1, e2⟩, rfl⟩
          · rw [if_neg (fun z => e2 ((nI_eq (by omega) (by omega)).mp z))]
            exact nx (fun z => e2 z.2)
        · rw [if_neg (fun z => e1 ((nI_eq (by omega) (by omega)).mp z))]
          exact nx (fun z => e1 z.1)
  exact key lpK k 0 (Nat.zero_add _) (by unfold lpK; omega) (fun j hj => absurd hj (Nat.not_lt_zero j))
end SK
