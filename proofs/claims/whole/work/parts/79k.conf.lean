section CG
variable {x : q_S} {A : Nat → Nat} {T : tT} {E : Nat} {ab : Nat → Nat → Nat} {L : Nat → Option (List Nat)} {O : List Nat} {v sg : Nat → Nat → Int32} {rp : Nat → Nat}
/-- the parent that a configuration asks for may be one -/
def fits (T : tT) (nc : Nat) (a : Int32) (po : Option Nat) : Prop := a = oI po ∧ ∀ q, po = some q → q < nc ∧ ∀ r, tO T 20 q = some r → tO T 20 r = none
theorem t_conf {nc : Nat} (hk : kI T rp nc) (h11 : T.1 11 = nI nc) (a1 a2 a3 a4 : Int32) : ((blw a2 4 = 0 ∨ nc = 8 ∨ ∀ po, ¬ fits T nc a3 po) ∧ jt_Mo_configure T a1 a2 a3 a4 = some (T, -1)) ∨ (blw a2 4 ≠ 0 ∧ nc ≠ 8 ∧ (∃ po, fits T nc a3 po) ∧ jt_Mo_configure T a1 a2 a3 a4 = jt_Mo_configure_L74 lpK T a1 a2 a3 a4 0 0) := by
  obtain ⟨h8, k1, k2, k3, -⟩ := hk
  have e11 : tf T 11 = nI nc := h11
  have tail : ((blw a2 4 = 0 ∨ nc = 8) ∧ (if tin a2 0 3 = 0 then some (T, (-1 : Int32)) else if tf T 11 = 8 then some (T, -1) else jt_Mo_configure_L74 lpK T a1 a2 a3 a4 0 0) = some (T, -1)) ∨ (blw a2 4 ≠ 0 ∧ nc ≠ 8 ∧ (if tin a2 0 3 = 0 then some (T, (-1 : Int32)) else if tf T 11 = 8 then some (T, -1) else jt_Mo_configure_L74 lpK T a1 a2 a3 a4 0 0) = jt_Mo_configure_L74 lpK T a1 a2 a3 a4 0 0) := by
    rw [tin_blw (b := 4) (by decide), e11]
    by_cases hb : blw a2 4 = 0
    · rw [if_pos hb]; exact Or.inl ⟨Or.inl hb, rfl⟩
    · rw [if_neg hb]
      by_cases hn : nc = 8
      · rw [if_pos (by rw [hn]; rfl)]; exact Or.inl ⟨Or.inr hn, rfl⟩
      · rw [if_neg (show ¬ nI nc = (8 : Int32) from fun z => hn ((nI_eq (b := 8) (by omega) (by decide)).mp z))]
        exact Or.inr ⟨hb, hn, rfl⟩
  have ok : ∀ po, fits T nc a3 po → jt_Mo_configure T a1 a2 a3 a4 = (if tin a2 0 3 = 0 then some (T, (-1 : Int32)) else if tf T 11 = 8 then some (T, -1) else jt_Mo_configure_L74 lpK T a1 a2 a3 a4 0 0) → (((blw a2 4 = 0 ∨ nc = 8 ∨ ∀ po, ¬ fits T nc a3 po) ∧ jt_Mo_configure T a1 a2 a3 a4 = some (T, -1)) ∨ (blw a2 4 ≠ 0 ∧ nc ≠ 8 ∧ (∃ po, fits T nc a3 po) ∧ jt_Mo_configure T a1 a2 a3 a4 = jt_Mo_configure_L74 lpK T a1 a2 a3 a4 0 0)) := fun po hf e => by
    rcases tail with ⟨t1, t2⟩ | ⟨t1, t2, t3⟩
    · exact Or.inl ⟨t1.elim Or.inl (fun z => Or.inr (Or.inl z)), e.trans t2⟩
    · exact Or.inr ⟨t1, t2, ⟨po, hf⟩, e.trans t3⟩
  by_cases h1 : a3 = -1
  · refine ok none ⟨h1, fun q hq => by cases hq⟩ ?_
    unfold jt_Mo_configure
    rw [if_pos h1, in_eq, Option.bind_some]
  · have hq1 : ∀ po, fits T nc a3 po → blw a3 (nI nc) ≠ 0 := fun po hf => by
      cases po with
      | none => exact absurd hf.1 h1
      | some q =>
        have := (hf.2 q rfl).1
        rw [hf.1, show oI (some q) = nI q from rfl, blw_of this (by omega)]; decide
    by_cases h2 : blw a3 (nI nc) = 0
    · refine Or.inl ⟨Or.inr (Or.inr (fun po hf => hq1 po hf h2)), ?_⟩
      unfold jt_Mo_configure
      rw [if_neg h1, isConf_eq (by omega) h11, Option.bind_some]
      dsimp only
      rw [if_pos h2, in_eq, Option.bind_some]
      exact ite_self _
    · obtain ⟨q, hq, rfl⟩ := blw_n (by omega) h2
      have bq : ∀ n, tO T 20 q = some n → n < 2 ^ 31 := fun n hn => by have := k2 q n hq hn; omega
      cases ho : tO T 20 q with
      | none =>
        refine ok (some q) ⟨rfl, fun q' hq' => ?_⟩ ?_
        · cases hq'; exact ⟨hq, fun r hr => by rw [ho] at hr; cases hr⟩
        · unfold jt_Mo_configure
          rw [if_neg h1, isConf_eq (by omega) h11, Option.bind_some]
          dsimp only
          rw [if_neg h2, tl_n (by omega) (by decide), Option.bind_some, k1 q hq, ho, if_pos (by decide), in_eq, Option.bind_some]
      | some r =>
        have hr := k2 q r hq ho
        have br : ∀ n, tO T 20 r = some n → n < 2 ^ 31 := fun n hn => by have := k2 r n (by omega) hn; omega
        have step : jt_Mo_configure T a1 a2 (nI q) a4 = if 0 ≤ oI (tO T 20 r) then some (T, (-1 : Int32)) else (if tin a2 0 3 = 0 then some (T, (-1 : Int32)) else if tf T 11 = 8 then some (T, -1) else jt_Mo_configure_L74 lpK T a1 a2 (nI q) a4 0 0) := by
          unfold jt_Mo_configure
          rw [if_neg h1, isConf_eq (by omega) h11, Option.bind_some]
          dsimp only
          rw [if_neg h2, tl_n (by omega) (by decide), Option.bind_some, k1 q hq, ho, if_neg (show ¬ oI (some r) < 0 from nI_pos (by omega)), Option.bind_some, show oI (some r) = nI r from rfl, tl_n (by omega) (by decide), Option.bind_some, k1 r (by omega), in_eq, Option.bind_some, Option.bind_some]
          dsimp only
          rw [ite_self]
        cases ho2 : tO T 20 r with
        | none =>
          rw [ho2, if_neg (by decide)] at step
          refine ok (some q) ⟨rfl, fun q' hq' => ?_⟩ step
          cases hq'
          exact ⟨hq, fun r' hr' => by rw [ho] at hr'; cases hr'; exact ho2⟩
        | some w =>
          rw [ho2, if_pos (show 0 ≤ oI (some w) from nI_pos' (br w ho2))] at step
          refine Or.inl ⟨Or.inr (Or.inr (fun po hf => ?_)), step⟩
          cases po with
          | none => exact h1 hf.1
          | some q' =>
            have e := (nI_eq (by omega) (by have := (hf.2 q' rfl).1; omega)).mp hf.1
            subst e
            have := (hf.2 q rfl).2 r ho
            rw [ho2] at this; cases this
end CG
