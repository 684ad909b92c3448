section CZ
variable {x : q_S} {A : Nat → Nat} {T : tT} {E : Nat} {ab : Nat → Nat → Nat} {L : Nat → Option (List Nat)} {O : List Nat} {v sg : Nat → Nat → Int32} {rp : Nat → Nat}
theorem canB (hKK : hK x ab v rp T) (hk : kI T rp (tN T 11)) {q : Nat} (hq : q < tN T 11) : ((∀ r, tO T 20 q = some r → tO T 20 r = none) ∧ jf_Ke_canBeParent x (ab 8 q) = some (x, 1)) ∨ (¬ (∀ r, tO T 20 q = some r → tO T 20 r = none) ∧ jf_Ke_canBeParent x (ab 8 q) = some (x, 0)) := by
  obtain ⟨o1, o2, o3, o4, o5, o6, o7, o8⟩ := hKK.1 q hq
  unfold jf_Ke_canBeParent
  rw [y_gR o1 o7, Option.bind_some]
  cases ho : tO T 20 q with
  | none => exact Or.inl ⟨(fun r hr => by cases hr), if_pos rfl⟩
  | some r =>
    have hr := hk.2.2.1 q r hq ho
    obtain ⟨p1, p2, p3, p4, p5, p6, p7, p8⟩ := hKK.1 r (by omega)
    rw [if_neg (fun z => by cases z), Option.bind_some]
    show (_ ∧ ((q_gR x (some (ab 8 r)) 8 5).bind fun v6 => _) = _) ∨ (_ ∧ ((q_gR x (some (ab 8 r)) 8 5).bind fun v6 => _) = _)
    rw [y_gR p1 p7, Option.bind_some]
    cases ho2 : tO T 20 r with
    | none => exact Or.inl ⟨(fun r' hr' => by cases hr'; exact ho2), if_pos rfl⟩
    | some w => exact Or.inr ⟨(fun z => by have := z r rfl; rw [ho2] at this; cases this), if_neg (fun z => by cases z)⟩
set_option maxHeartbeats 2000000 in
theorem g_configure (h : gI x A T E) (hE : E + 100000 ≤ 1000000000) (a b c d : Int32) : gO' A x T E (jf_Bc_configure x (A 0) a b c d) (jt_Mo_configure T a b c d) := by
  have h0 := h
  have hC := g_isConf h c
  obtain ⟨ab, L, O, v, sg, rp, hh, hp, hq⟩ := h
  have hh0 := hh
  have hk := hp.2.2.1
  have e11 := hp.1.2.1
  have tc := t_conf hk e11.1 a b c d
  obtain ⟨⟨kn, ⟨⟨b1, b2, b3, -⟩, -⟩, hR⟩, ⟨hJ, hw, l2, -⟩, -, hKK, -⟩ := hh
  obtain ⟨i2, -, hl2⟩ := hJ.1 _ _ l2
  have lS := L_size i2
  rw [ls_len] at lS
  unfold jf_Bc_configure
  rw [y_gRs b1 b3, Option.bind_some, y_av i2.1, Option.bind_some, lS, Option.bind_some]
  dsimp only
  by_cases h8 : tN T 11 = 8
  · rw [if_pos (by rw [h8]; decide)]
    rcases tc with ⟨-, t2⟩ | ⟨-, t2, -⟩
    · rw [t2]; exact gO_rd (r := -1) h0 hE rfl rfl
    · exact absurd h8 t2
  · rw [if_neg (show ¬ (8 : Int32) ≤ nI (tN T 11) from nI_ge (a := tN T 11) (b := 8) (by omega) (by decide)), isProfile_eq, Option.bind_some]
    dsimp only
    by_cases hb : blw b 4 = 0
    · rw [if_pos hb]
      rcases tc with ⟨-, t2⟩ | ⟨t1, -⟩
      · rw [t2]; exact gO_rd (r := -1) h0 hE rfl rfl
      · exact absurd hb t1
    · rw [if_neg hb]
      have good : ∀ po, fits T (tN T 11) c po → jt_Mo_configure T a b c d = jt_Mo_configure_L74 lpK T a b (oI po) d 0 0 := fun po hf => by
        rcases tc with ⟨t1 | t1 | t1, -⟩ | ⟨-, -, -, t4⟩
        · exact absurd t1 hb
        · exact absurd t1 h8
        · exact absurd hf (t1 po)
        · rw [t4, hf.1]
      have bad : (∀ po, ¬ fits T (tN T 11) c po) → jt_Mo_configure T a b c d = some (T, -1) := fun hn => by
        rcases tc with ⟨-, t2⟩ | ⟨-, -, ⟨po, hf⟩, -⟩
        · exact t2
        · exact absurd hf (hn po)
      by_cases h1 : c = -1
      · rw [if_pos h1, if_pos h1, good none ⟨h1, fun q hq => by cases hq⟩]
        exact kC_eq hh0 hp hq hE rfl (by omega) a b d (po := none) (fun q hq => by cases hq)
      · rw [if_neg h1, y_av b1, Option.bind_some, hC.1, Option.bind_some]
        dsimp only
        by_cases h2 : blw c (nI (tN T 11)) = 0
        · rw [if_pos h2, bad (fun po hf => ?_)]
          · exact gO_rd (r := -1) h0 hE rfl rfl
          · cases po with
            | none => exact h1 hf.1
            | some q =>
              have := (hf.2 q rfl).1
              rw [hf.1, show oI (some q) = nI q from rfl, blw_of this (by omega)] at h2
              exact absurd h2 (by decide)
        · obtain ⟨q, hqn, rfl⟩ := blw_n (by omega) h2
          have oq := (hKK.1 q hqn).1
          rw [if_neg h2, y_gRs b1 b3, Option.bind_some, y_av i2.1, Option.bind_some, L_get i2 hl2 (by rw [ls_len]; exact hqn), ls_get hqn, Option.bind_some]
          dsimp only
          rw [y_ck oq, Option.bind_some, y_av oq, Option.bind_some]
          rcases canB hKK hk hqn with ⟨c1, c2⟩ | ⟨c1, c2⟩
          · rw [c2, Option.bind_some]
            dsimp only
            rw [if_neg (by decide), if_neg h1, y_gRs b1 b3, Option.bind_some, y_av i2.1, Option.bind_some, L_get i2 hl2 (by rw [ls_len]; exact hqn), ls_get hqn, Option.bind_some]
            dsimp only
            have hfit : ∀ q', some q = some q' → q' < tN T 11 ∧ ∀ r, tO T 20 q' = some r → tO T 20 r = none := fun q' hq' => by cases hq'; exact ⟨hqn, c1⟩
            rw [y_ck oq, Option.bind_some, good (some q) ⟨rfl, hfit⟩]
            exact kC_eq hh0 hp hq hE rfl (by omega) a b d (po := some q) hfit
          · rw [c2, Option.bind_some]
            dsimp only
            rw [if_pos rfl, bad (fun po hf => ?_)]
            · exact gO_rd (r := -1) h0 hE rfl rfl
            · cases po with
              | none => exact h1 hf.1
              | some q' =>
                have e := (nI_eq (by omega) (by have := (hf.2 q' rfl).1; omega)).mp hf.1
                subst e
                exact c1 (hf.2 q rfl).2
end CZ
