/-! Candidates for a need. -/
def cd (T : tT) (ins : Int32) (ty : Nat) (qu : Int32) (d : Nat) : Prop := hs ins d ∧ isE (T.2 100) (tV T 10 d) ty ∧ (qu = 0 ∨ qu = T.2 12 d)
def b01 (b : Bool) : Int32 := if b then 1 else 0
section FN
variable {x : q_S} {A : Nat → Nat} {T : tT} {E : Nat} {ab : Nat → Nat → Nat} {L : Nat → Option (List Nat)} {O : List Nat} {v sg : Nat → Nat → Int32} {rp : Nat → Nat}
set_option maxHeartbeats 2000000 in
theorem cand_L (hh : hI x A ab L O v sg rp T) (hp : pI T E O v sg rp) {a ty : Nat} {qu na : Int32} (ins : Int32) (ho : oN x a (nI ty) qu na) (hty : ty < 6) : ∀ (m r i : Nat) (s : Int32), i + r = tN T 2 → r < m → (∀ d, d < 32 → (hs s d ↔ d < i ∧ cd T ins ty qu d)) → ∃ s', jf_Ca_candidates_L5 m x (A 1) ins (some a) s (nI i) = some (x, s') ∧ ∀ d, d < 32 → (hs s' d ↔ d < tN T 2 ∧ cd T ins ty qu d) := by
  have h10 := hp.1.1.2
  obtain ⟨⟨kn, ⟨-, ⟨c1, c2, c3⟩, -, -, -, k6, -⟩, hR⟩, ⟨hJ, hw, l2, l7, -⟩, hDD, -⟩ := hh
  obtain ⟨i7, -, hl7⟩ := hJ.1 _ _ l7
  have lS := L_size i7
  rw [ls_len] at lS
  obtain ⟨n1, n2, n3, n4⟩ := ho
  have tyE : jf_Ne_type x a = some (x, nI ty) := by unfold jf_Ne_type; rw [y_gI n1 n2]; rfl
  have quE : jf_Ne_qualifier x a = some (x, qu) := by unfold jf_Ne_qualifier; rw [y_gI n1 n3]; rfl
  intro m
  induction m with
  | zero => intro r i s _ h; omega
  | succ m ih =>
    intro r i s hr hm hs0
    show ∃ s', jf_Ca_candidates_B5 (jf_Ca_candidates_L5 m) x (A 1) ins (some a) s (nI i) = some (x, s') ∧ _
    unfold jf_Ca_candidates_B5
    rw [y_gRs c1 c3, Option.bind_some, y_av i7.1, Option.bind_some, lS, Option.bind_some]
    dsimp only
    cases r with
    | zero =>
      rw [if_pos (nI_le (by omega) (by omega))]
      refine ⟨s, rfl, ?_⟩
      rw [show i = tN T 2 by omega] at hs0
      exact hs0
    | succ r =>
      have hi : i < tN T 2 := by omega
      obtain ⟨⟨o1, o2, o3, o4, o5, o6⟩, -⟩ := hDD i hi
      obtain ⟨⟨t1, t2⟩, -⟩ := hp.2.1.1 i hi
      have hk := hR (tV T 10 i) ty t2 hty
      have add : cd T ins ty qu i → ∃ s', jf_Ca_candidates_L5 m x (A 1) ins (some a) (s ||| ((1 : Int32) <<< (nI i &&& 31))) (nI (i + 1)) = some (x, s') ∧ ∀ d, d < 32 → (hs s' d ↔ d < tN T 2 ∧ cd T ins ty qu d) := fun h => ih r (i + 1) _ (by omega) (by omega) (bt_add (P := cd T ins ty qu) (by omega) hs0 h)
      have skp : ¬ cd T ins ty qu i → ∃ s', jf_Ca_candidates_L5 m x (A 1) ins (some a) s (nI (i + 1)) = some (x, s') ∧ ∀ d, d < 32 → (hs s' d ↔ d < tN T 2 ∧ cd T ins ty qu d) := fun h => ih r (i + 1) _ (by omega) (by omega) (bt_skip (P := cd T ins ty qu) hs0 h)
      rw [if_neg (nI_ge hi (by omega)), y_gRs c1 c3, Option.bind_some, y_av i7.1, Option.bind_some, L_get i7 hl7 (by rw [ls_len]; exact hi), ls_get hi, Option.bind_some]
      dsimp only
      rw [y_ck o1, Option.bind_some, y_gRs c1 c2, Option.bind_some, y_gI o1 o2, Option.bind_some, t1, y_lI k6 t2 (by decide), Option.bind_some, y_av n1, Option.bind_some, tyE, Option.bind_some]
      dsimp only
      rcases cont_eq x (kn (tV T 10 i)) ty with ⟨k1, k2⟩ | ⟨k1, k2⟩
      · rw [k2, Option.bind_some]
        dsimp only
        rw [y_av n1, Option.bind_some, quE, Option.bind_some]
        dsimp only
        by_cases hq : qu = 0
        · rw [if_pos hq]
          rcases cont_eq x ins i with ⟨a1, a2⟩ | ⟨a1, a2⟩
          · rw [a2, Option.bind_some]
            dsimp only
            rw [if_neg i10, if_neg i10, nI_1]
            exact add ⟨a1, hk.mp k1, Or.inl hq⟩
          · rw [a2, Option.bind_some]
            dsimp only
            rw [if_pos i00, nI_1]
            exact skp (fun z => a1 z.1)
        · rw [if_neg hq, y_av n1, Option.bind_some, quE, Option.bind_some]
          dsimp only
          rw [y_gI o1 o4, Option.bind_some]
          by_cases hq2 : qu = T.2 12 i
          · rw [if_pos hq2]
            rcases cont_eq x ins i with ⟨a1, a2⟩ | ⟨a1, a2⟩
            · rw [a2, Option.bind_some]
              dsimp only
              rw [if_neg i10, if_neg i10, nI_1]
              exact add ⟨a1, hk.mp k1, Or.inr hq2⟩
            · rw [a2, Option.bind_some]
              dsimp only
              rw [if_pos i00, nI_1]
              exact skp (fun z => a1 z.1)
          · rw [if_neg hq2]
            have nx := skp (fun z => z.2.2.elim hq hq2)
            rcases cont_eq x ins i with ⟨a1, a2⟩ | ⟨a1, a2⟩
            · rw [a2, Option.bind_some]
              dsimp only
              rw [if_neg i10, if_neg i10, nI_1]
              exact nx
            · rw [a2, Option.bind_some]
              dsimp only
              rw [if_pos i00, nI_1]
              exact nx
      · rw [k2, Option.bind_some]
        dsimp only
        have nx := skp (fun z => k1 (hk.mpr z.2.1))
        rw [y_av n1, Option.bind_some, quE, Option.bind_some]
        dsimp only
        by_cases hq : qu = 0
        · rw [if_pos hq]
          rcases cont_eq x ins i with ⟨a1, a2⟩ | ⟨a1, a2⟩
          · rw [a2, Option.bind_some]
            dsimp only
            rw [if_neg i10, if_pos i00, nI_1]
            exact nx
          · rw [a2, Option.bind_some]
            dsimp only
            rw [if_pos i00, nI_1]
            exact nx
        · rw [if_neg hq, y_av n1, Option.bind_some, quE, Option.bind_some]
          dsimp only
          rw [y_gI o1 o4, Option.bind_some]
          by_cases hq2 : qu = T.2 12 i
          · rw [if_pos hq2]
            rcases cont_eq x ins i with ⟨a1, a2⟩ | ⟨a1, a2⟩
            · rw [a2, Option.bind_some]
              dsimp only
              rw [if_neg i10, if_pos i00, nI_1]
              exact nx
            · rw [a2, Option.bind_some]
              dsimp only
              rw [if_pos i00, nI_1]
              exact nx
          · rw [if_neg hq2]
            rcases cont_eq x ins i with ⟨a1, a2⟩ | ⟨a1, a2⟩
            · rw [a2, Option.bind_some]
              dsimp only
              rw [if_neg i10, if_pos i00, nI_1]
              exact nx
            · rw [a2, Option.bind_some]
              dsimp only
              rw [if_pos i00, nI_1]
              exact nx
theorem cand_eq (hh : hI x A ab L O v sg rp T) (hp : pI T E O v sg rp) {a ty : Nat} {qu na : Int32} (ins : Int32) (ho : oN x a (nI ty) qu na) (hty : ty < 6) : ∃ s', jf_Ca_candidates x (A 1) ins (some a) = some (x, s') ∧ ∀ d, d < 32 → (hs s' d ↔ d < tN T 2 ∧ cd T ins ty qu d) :=
  cand_L hh hp ins ho hty lpK (tN T 2) 0 0 (Nat.zero_add _) (by have := hp.1.1.2; unfold lpK; omega) bt_0
/-- the reference's step at a candidate -/
def kT (rc : tT → Int32 → Int32 → Int32 → Int32 → Int32 → Int32 → Int32 → Int32 → Int32 → Int32 → Int32 → Option (tT × Int32)) (T : tT) (l2 l3 l4 l5 l6 l7 l9 l10 l11 l12 : Int32) : Option (tT × Int32) :=
          if l11 = 0 then
            if l12 = l4 then
              (tl T 11 10 l12).bind fun v15 =>
              if (v15 &&& 1) = 0 then
                rc T l2 l3 l4 l5 l6 (l7 + 1) l12 l9 l10 1 (l12 + 1)
              else
                rc T l2 l3 l4 l5 l6 (l7 + 1) l12 (l9 + 1) l12 1 (l12 + 1)
            else
              (tl T 11 10 l12).bind fun v12 =>
              if (v12 &&& 1) = 0 then
                rc T l2 l3 l4 l5 l6 (l7 + 1) l12 l9 l10 0 (l12 + 1)
              else
                rc T l2 l3 l4 l5 l6 (l7 + 1) l12 (l9 + 1) l12 0 (l12 + 1)
          else
            (tl T 11 10 l12).bind fun v9 =>
            if (v9 &&& 1) = 0 then
              rc T l2 l3 l4 l5 l6 (l7 + 1) l12 l9 l10 1 (l12 + 1)
            else
              rc T l2 l3 l4 l5 l6 (l7 + 1) l12 (l9 + 1) l12 1 (l12 + 1)
theorem cn_t {p : Nat → Bool} {i : Nat} (h : p i = true) : cn p (i + 1) = cn p i + 1 ∧ lst p (i + 1) = some i := by
  constructor
  · show (if p i then _ else _) = _; rw [h]; rfl
  · show (if p i then _ else _) = _; rw [h]; rfl
theorem cn_f {p : Nat → Bool} {i : Nat} (h : p i = false) : cn p (i + 1) = cn p i ∧ lst p (i + 1) = lst p i := by
  constructor
  · show (if p i then _ else _) = _; rw [h]; rfl
  · show (if p i then _ else _) = _; rw [h]; rfl
theorem an_f {p : Nat → Bool} {i : Nat} (h : p i = false) : an p (i + 1) = an p i := by
  show (an p i || p i) = _; rw [h]; exact Bool.or_false _
theorem an_t {p : Nat → Bool} {i : Nat} (h : p i = true) : an p (i + 1) = true := by
  show (an p i || p i) = _; rw [h]; exact Bool.or_true _
theorem an_u {p : Nat → Bool} {i : Nat} (h : an p i = true) : an p (i + 1) = true := by
  show (an p i || p i) = _; rw [h]; exact Bool.true_or _
set_option maxHeartbeats 1000000 in
theorem kT_eq (rc : tT → Int32 → Int32 → Int32 → Int32 → Int32 → Int32 → Int32 → Int32 → Int32 → Int32 → Int32 → Option (tT × Int32)) {p q r : Nat → Bool} {i : Nat} (hi : i < 10) (l2 l3 na l5 l6 : Int32) (hp : p i = true) (hQ : q i = (p i && decide (T.2 11 i &&& 1 ≠ 0))) (hR : r i = (p i && decide (nI i = na))) : kT rc T l2 l3 na l5 l6 (nI (cn p i)) (nI (cn q i)) (oI (lst q i)) (b01 (an r i)) (nI i) = rc T l2 l3 na l5 l6 (nI (cn p (i + 1))) (oI (lst p (i + 1))) (nI (cn q (i + 1))) (oI (lst q (i + 1))) (b01 (an r (i + 1))) (nI (i + 1)) := by
  rw [hp, Bool.true_and] at hQ hR
  unfold kT
  rw [(cn_t hp).1, (cn_t hp).2, tl_n hi (by decide)]
  simp only [Option.bind_some, nI_1]
  by_cases hpr : T.2 11 i &&& 1 = 0
  · have hq : q i = false := by rw [hQ]; exact decide_eq_false (fun z => z hpr)
    rw [(cn_f hq).1, (cn_f hq).2, if_pos hpr, if_pos hpr]
    cases ha : an r i with
    | true =>
      rw [an_u ha, if_neg (show ¬ b01 true = 0 by decide)]; rfl
    | false =>
      rw [if_pos (show b01 false = 0 by decide)]
      by_cases hn : nI i = na
      · rw [if_pos hn, an_t (by rw [hR]; exact decide_eq_true hn)]; rfl
      · rw [if_neg hn, an_f (by rw [hR]; exact decide_eq_false hn), ha]; rfl
  · have hq : q i = true := by rw [hQ]; exact decide_eq_true hpr
    rw [(cn_t hq).1, (cn_t hq).2, if_neg hpr, if_neg hpr]
    cases ha : an r i with
    | true =>
      rw [an_u ha, if_neg (show ¬ b01 true = 0 by decide)]; rfl
    | false =>
      rw [if_pos (show b01 false = 0 by decide)]
      by_cases hn : nI i = na
      · rw [if_pos hn, an_t (by rw [hR]; exact decide_eq_true hn)]; rfl
      · rw [if_neg hn, an_f (by rw [hR]; exact decide_eq_false hn), ha]; rfl
set_option maxHeartbeats 1000000 in
theorem fin_L (hp : pI T E O v sg rp) {c ty : Nat} {qu na k : Int32} (hc : c < tN T 16) (hty : ty < 6) {p q r : Nat → Bool} (hP : ∀ d, d < tN T 2 → (p d = true ↔ cd T (T.2 18 (tV T 22 c)) ty qu d)) (hQ : ∀ d, d < tN T 2 → q d = (p d && decide (T.2 11 d &&& 1 ≠ 0))) (hR : ∀ d, d < tN T 2 → r d = (p d && decide (nI d = na))) (kk : tT → Int32 → Int32 → Int32 → Int32 → Int32 → Int32 → Int32 → Int32 → Int32 → Int32 → Int32 → Option (tT × Int32)) : ∀ (m j i : Nat), i + j = tN T 2 → j < m → jt_Mo_find_L35 kk m T (nI ty) qu na (nI c) k (nI (cn p i)) (oI (lst p i)) (nI (cn q i)) (oI (lst q i)) (b01 (an r i)) (nI i) = kk T (nI ty) qu na (nI c) k (nI (cn p (tN T 2))) (oI (lst p (tN T 2))) (nI (cn q (tN T 2))) (oI (lst q (tN T 2))) (b01 (an r (tN T 2))) (nI (tN T 2)) := by
  have h10 := hp.1.1.2
  have e2 : tf T 2 = nI (tN T 2) := hp.1.1.1
  intro m
  induction m with
  | zero => intro j i _ h; omega
  | succ m ih =>
    intro j i hij hm
    show jt_Mo_find_B35 kk (jt_Mo_find_L35 kk m) T (nI ty) qu na (nI c) k _ _ _ _ _ (nI i) = _
    unfold jt_Mo_find_B35
    rw [e2]
    cases j with
    | zero =>
      rw [if_pos (nI_le (by omega) (by omega))]
      rw [show i = tN T 2 by omega]
    | succ j =>
      have hi : i < tN T 2 := by omega
      obtain ⟨⟨t1, t2⟩, -, ⟨t3, -⟩, -⟩ := hp.2.1.1 i hi
      have nx := ih j (i + 1) (by omega) (by omega)
      have skp : p i = false → jt_Mo_find_L35 kk m T (nI ty) qu na (nI c) k (nI (cn p i)) (oI (lst p i)) (nI (cn q i)) (oI (lst q i)) (b01 (an r i)) (nI (i + 1)) = kk T (nI ty) qu na (nI c) k (nI (cn p (tN T 2))) (oI (lst p (tN T 2))) (nI (cn q (tN T 2))) (oI (lst q (tN T 2))) (b01 (an r (tN T 2))) (nI (tN T 2)) := fun h => by
        have hq : q i = false := by rw [hQ i hi, h]; rfl
        have hr : r i = false := by rw [hR i hi, h]; rfl
        rw [(cn_f h).1, (cn_f h).2, (cn_f hq).1, (cn_f hq).2, an_f hr] at nx
        exact nx
      have nt : ¬ cd T (T.2 18 (tV T 22 c)) ty qu i → p i = false := fun h => by
        cases e : p i with
        | false => rfl
        | true => exact absurd ((hP i hi).mp e) h
      rw [if_neg (nI_ge hi (by omega))]
      simp only [nI_1]
      rcases isin_eq hp.1 hp.2.2.2.2.1 hc (d := i) (by omega) with ⟨a1, a2⟩ | ⟨a1, a2⟩
      · rw [a2, Option.bind_some]
        dsimp only
        rw [if_neg i10, tl_n (t := 10) (by omega) (by decide), Option.bind_some, t1, is_eq t2 hty, Option.bind_some]
        dsimp only
        by_cases hE : isE (T.2 100) (tV T 10 i) ty
        · rw [if_pos hE, if_neg i10]
          by_cases hq : qu = 0
          · have hpi : p i = true := (hP i hi).mpr ⟨a1, hE, Or.inl hq⟩
            rw [if_pos hq, ← nx, ← kT_eq (jt_Mo_find_L35 kk m) (by omega) (nI ty) qu na (nI c) k hpi (hQ i hi) (hR i hi)]
            unfold kT
            simp only [nI_1]
          · rw [if_neg hq, tl_n (t := 12) (by omega) (by decide), Option.bind_some]
            by_cases hq2 : T.2 12 i = qu
            · have hpi : p i = true := (hP i hi).mpr ⟨a1, hE, Or.inr hq2.symm⟩
              rw [if_pos hq2, ← nx, ← kT_eq (jt_Mo_find_L35 kk m) (by omega) (nI ty) qu na (nI c) k hpi (hQ i hi) (hR i hi)]
              unfold kT
              simp only [nI_1]
            · rw [if_neg hq2]
              exact skp (nt (fun z => z.2.2.elim hq (fun w => hq2 w.symm)))
        · rw [if_neg hE, if_pos i00]
          exact skp (nt (fun z => hE z.2.1))
      · rw [a2, Option.bind_some]
        dsimp only
        rw [if_pos i00]
        exact skp (nt (fun z => a1 z.1))
end FN
