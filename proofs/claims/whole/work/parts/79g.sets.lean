/-! Sets of definitions, gathered by loops on both sides. -/
theorem bt_add {s : Int32} {i : Nat} {P : Nat → Prop} (hi : i < 32) (h : ∀ d, d < 32 → (hs s d ↔ d < i ∧ P d)) (hP : P i) : ∀ d, d < 32 → (hs (s ||| ((1 : Int32) <<< (nI i &&& 31))) d ↔ d < i + 1 ∧ P d) := fun d hd => by
  rw [hs_or, h d hd, hs_mk hi hd]
  constructor
  · rintro (z | z)
    · exact ⟨by omega, z.2⟩
    · rw [z]; exact ⟨by omega, hP⟩
  · intro z
    by_cases hdi : d = i
    · exact Or.inr hdi
    · exact Or.inl ⟨by omega, z.2⟩
theorem bt_skip {s : Int32} {i : Nat} {P : Nat → Prop} (h : ∀ d, d < 32 → (hs s d ↔ d < i ∧ P d)) (hP : ¬ P i) : ∀ d, d < 32 → (hs s d ↔ d < i + 1 ∧ P d) := fun d hd => by
  rw [h d hd]
  constructor
  · exact fun z => ⟨by omega, z.2⟩
  · intro z
    by_cases hdi : d = i
    · rw [hdi] at z; exact absurd z.2 hP
    · exact ⟨by omega, z.2⟩
theorem bt_0 {P : Nat → Prop} : ∀ d, d < 32 → (hs 0 d ↔ d < 0 ∧ P d) := fun d _ => ⟨fun z => absurd z (hs_0 d), fun z => absurd z.1 (Nat.not_lt_zero d)⟩
def tCf (T : tT) (n : Nat) (s m p : Int32) : tT := tp (tset (tset (tset T 18 (upd (T.2 18) n s)) 19 (upd (T.2 19) n m)) 20 (upd (T.2 20) n p)) 11 (nI (n + 1))
section SE
variable {x : q_S} {A : Nat → Nat} {T : tT} {E : Nat} {ab : Nat → Nat → Nat} {L : Nat → Option (List Nat)} {O : List Nat} {v sg : Nat → Nat → Int32} {rp : Nat → Nat}
theorem ofP_L (hh : hI x A ab L O v sg rp T) (h10 : tN T 2 ≤ 10) (p : Int32) : ∀ (m r i : Nat) (s : Int32), i + r = tN T 2 → r < m → (∀ d, d < 32 → (hs s d ↔ d < i ∧ (T.2 13 d = 0 ∨ T.2 13 d = p))) → ∃ s', jf_Ca_ofProfile_L4 m x (A 1) p s (nI i) = some (x, s') ∧ ∀ d, d < 32 → (hs s' d ↔ d < tN T 2 ∧ (T.2 13 d = 0 ∨ T.2 13 d = p)) := by
  obtain ⟨⟨kn, ⟨-, ⟨c1, c2, c3⟩, -⟩, -⟩, ⟨hJ, hw, l2, l7, -⟩, hDD, -⟩ := hh
  obtain ⟨i7, -, hl7⟩ := hJ.1 _ _ l7
  have lS := L_size i7
  rw [ls_len] at lS
  intro m
  induction m with
  | zero => intro r i s _ h; omega
  | succ m ih =>
    intro r i s hr hm hs0
    show ∃ s', jf_Ca_ofProfile_B4 (jf_Ca_ofProfile_L4 m) x (A 1) p s (nI i) = some (x, s') ∧ _
    unfold jf_Ca_ofProfile_B4
    rw [y_gRs c1 c3, Option.bind_some, y_av i7.1, Option.bind_some, lS, Option.bind_some]
    dsimp only
    cases r with
    | zero =>
      rw [if_pos (nI_le (by omega) (by omega))]
      refine ⟨s, rfl, ?_⟩
      rw [show i = tN T 2 by omega] at hs0
      exact hs0
    | succ r =>
      have hi : i < tN T 2 := by omega
      obtain ⟨⟨o1, o2, o3, o4, o5, o6⟩, -⟩ := hDD i hi
      rw [if_neg (nI_ge hi (by omega)), y_gRs c1 c3, Option.bind_some, y_av i7.1, Option.bind_some, L_get i7 hl7 (by rw [ls_len]; exact hi), ls_get hi, Option.bind_some]
      dsimp only
      rw [y_ck o1, Option.bind_some, y_gI o1 o5, Option.bind_some, nI_1]
      by_cases h1 : T.2 13 i = 0
      · rw [if_pos h1]
        exact ih r (i + 1) _ (by omega) (by omega) (bt_add (P := fun d => T.2 13 d = 0 ∨ T.2 13 d = p) (by omega) hs0 (Or.inl h1))
      · rw [if_neg h1]
        by_cases h2 : T.2 13 i = p
        · rw [if_pos h2]
          exact ih r (i + 1) _ (by omega) (by omega) (bt_add (P := fun d => T.2 13 d = 0 ∨ T.2 13 d = p) (by omega) hs0 (Or.inr h2))
        · rw [if_neg h2]
          exact ih r (i + 1) _ (by omega) (by omega) (bt_skip (P := fun d => T.2 13 d = 0 ∨ T.2 13 d = p) hs0 (fun z => z.elim h1 h2))
theorem ofP_eq (hh : hI x A ab L O v sg rp T) (h10 : tN T 2 ≤ 10) (p : Int32) : ∃ s', jf_Ca_ofProfile x (A 1) p = some (x, s') ∧ ∀ d, d < 32 → (hs s' d ↔ d < tN T 2 ∧ (T.2 13 d = 0 ∨ T.2 13 d = p)) :=
  ofP_L hh h10 p lpK (tN T 2) 0 0 (Nat.zero_add _) (by unfold lpK; omega) bt_0
theorem flg_L (hh : hI x A ab L O v sg rp T) (h10 : tN T 2 ≤ 10) (p : Int32) : ∀ (m r i : Nat) (s : Int32), i + r = tN T 2 → r < m → (∀ d, d < 32 → (hs s d ↔ d < i ∧ T.2 11 d &&& p ≠ 0)) → ∃ s', jf_Ca_flagged_L4 m x (A 1) p s (nI i) = some (x, s') ∧ ∀ d, d < 32 → (hs s' d ↔ d < tN T 2 ∧ T.2 11 d &&& p ≠ 0) := by
  obtain ⟨⟨kn, ⟨-, ⟨c1, c2, c3⟩, -⟩, -⟩, ⟨hJ, hw, l2, l7, -⟩, hDD, -⟩ := hh
  obtain ⟨i7, -, hl7⟩ := hJ.1 _ _ l7
  have lS := L_size i7
  rw [ls_len] at lS
  intro m
  induction m with
  | zero => intro r i s _ h; omega
  | succ m ih =>
    intro r i s hr hm hs0
    show ∃ s', jf_Ca_flagged_B4 (jf_Ca_flagged_L4 m) x (A 1) p s (nI i) = some (x, s') ∧ _
    unfold jf_Ca_flagged_B4
    rw [y_gRs c1 c3, Option.bind_some, y_av i7.1, Option.bind_some, lS, Option.bind_some]
    dsimp only
    cases r with
    | zero =>
      rw [if_pos (nI_le (by omega) (by omega))]
      refine ⟨s, rfl, ?_⟩
      rw [show i = tN T 2 by omega] at hs0
      exact hs0
    | succ r =>
      have hi : i < tN T 2 := by omega
      obtain ⟨⟨o1, o2, o3, o4, o5, o6⟩, -⟩ := hDD i hi
      rw [if_neg (nI_ge hi (by omega)), y_gRs c1 c3, Option.bind_some, y_av i7.1, Option.bind_some, L_get i7 hl7 (by rw [ls_len]; exact hi), ls_get hi, Option.bind_some]
      dsimp only
      rw [y_ck o1, Option.bind_some, y_gI o1 o3, Option.bind_some, nI_1]
      by_cases h1 : T.2 11 i &&& p = 0
      · rw [if_pos h1]
        exact ih r (i + 1) _ (by omega) (by omega) (bt_skip (P := fun d => T.2 11 d &&& p ≠ 0) hs0 (fun z => z h1))
      · rw [if_neg h1]
        exact ih r (i + 1) _ (by omega) (by omega) (bt_add (P := fun d => T.2 11 d &&& p ≠ 0) (by omega) hs0 h1)
theorem flg_eq (hh : hI x A ab L O v sg rp T) (h10 : tN T 2 ≤ 10) (p : Int32) : ∃ s', jf_Ca_flagged x (A 1) p = some (x, s') ∧ ∀ d, d < 32 → (hs s' d ↔ d < tN T 2 ∧ T.2 11 d &&& p ≠ 0) :=
  flg_L hh h10 p lpK (tN T 2) 0 0 (Nat.zero_add _) (by unfold lpK; omega) bt_0
/-- the reference's loop in configure and what it writes -/
theorem cnf_L {nd nc : Nat} (h2 : T.1 2 = nI nd) (h10 : nd ≤ 10) (h11 : T.1 11 = nI nc) (h8 : nc < 8) (st p pa mk : Int32) : ∀ (m r i : Nat) (s : Int32), i + r = nd → r < m → (∀ d, d < 32 → (hs s d ↔ d < i ∧ (hs st d ∧ (T.2 13 d = 0 ∨ T.2 13 d = p)))) → ∃ s', jt_Mo_configure_L74 m T st p pa mk s (nI i) = some (tCf T nc s' (s' &&& mk) pa, nI nc) ∧ ∀ d, d < 32 → (hs s' d ↔ d < nd ∧ (hs st d ∧ (T.2 13 d = 0 ∨ T.2 13 d = p))) := by
  intro m
  induction m with
  | zero => intro r i s _ h; omega
  | succ m ih =>
    intro r i s hr hm hs0
    show ∃ s', jt_Mo_configure_B74 (jt_Mo_configure_L74 m) T st p pa mk s (nI i) = _ ∧ _
    unfold jt_Mo_configure_B74
    rw [show tf T 2 = nI nd from h2]
    cases r with
    | zero =>
      rw [if_pos (nI_le (by omega) (by omega))]
      refine ⟨s, ?_, by rw [show i = nd by omega] at hs0; exact hs0⟩
      have e : tf T 11 = nI nc := h11
      simp only [e, tw_n (t := 18) (i := nc) (n := 8) (T := T) h8 (by decide), Option.bind_some, tset_f, tw_n (t := 19) (i := nc) (n := 8) h8 (by decide), tw_n (t := 20) (i := nc) (n := 8) h8 (by decide), tpi]
      refine congrArg some (Prod.ext ?_ ?_)
      · show tp _ 11 (nI nc + 1) = tp _ 11 (nI (nc + 1))
        rw [nI_1]; rfl
      · show nI nc + 1 - 1 = nI nc
        rw [nI_1, nI_pred]
    | succ r =>
      have hi : i < nd := by omega
      rw [if_neg (nI_ge hi (by omega)), nI_1]
      by_cases h0 : (st >>> (nI i &&& 31)) &&& 1 = 1
      · have h0' := (hs_shr (by omega)).mp h0
        rw [if_pos h0, tl_n (by omega) (by decide), Option.bind_some]
        by_cases h1 : T.2 13 i = 0
        · rw [if_pos h1]
          exact ih r (i + 1) _ (by omega) (by omega) (bt_add (P := fun d => hs st d ∧ (T.2 13 d = 0 ∨ T.2 13 d = p)) (by omega) hs0 ⟨h0', Or.inl h1⟩)
        · rw [if_neg h1, Option.bind_some]
          by_cases h3 : T.2 13 i = p
          · rw [if_pos h3]
            exact ih r (i + 1) _ (by omega) (by omega) (bt_add (P := fun d => hs st d ∧ (T.2 13 d = 0 ∨ T.2 13 d = p)) (by omega) hs0 ⟨h0', Or.inr h3⟩)
          · rw [if_neg h3]
            exact ih r (i + 1) _ (by omega) (by omega) (bt_skip (P := fun d => hs st d ∧ (T.2 13 d = 0 ∨ T.2 13 d = p)) hs0 (fun z => z.2.elim h1 h3))
      · rw [if_neg h0]
        exact ih r (i + 1) _ (by omega) (by omega) (bt_skip (P := fun d => hs st d ∧ (T.2 13 d = 0 ∨ T.2 13 d = p)) hs0 (fun z => h0 ((hs_shr (by omega)).mpr z.1)))
end SE
