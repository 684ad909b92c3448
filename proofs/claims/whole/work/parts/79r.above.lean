/-! Contexts above a context. -/
section AB
variable {x : q_S} {A : Nat → Nat} {T : tT} {E : Nat} {ab : Nat → Nat → Nat} {L : Nat → Option (List Nat)} {O : List Nat} {v sg : Nat → Nat → Int32} {rp : Nat → Nat}
def isUp (T : tT) (d c : Nat) : Prop := tO T 23 c = some d ∨ ∃ u, tO T 23 c = some u ∧ tO T 23 u = some d
theorem top3 (hp : pI T E O v sg rp) {c u w : Nat} (hc : c < tN T 16) (h1 : tO T 23 c = some u) (h2 : tO T 23 u = some w) : tO T 23 w = none := by
  have hk := hp.2.2.1
  have hx := hp.2.2.2.2.1
  obtain ⟨⟨-, c2, -⟩, ⟨-, c4⟩, c5, -⟩ := hx.1 c hc
  have lu := (c4 u h1).1
  obtain ⟨⟨-, u2, -⟩, ⟨-, u4⟩, u5, -⟩ := hx.1 u (by omega)
  have lw := (u4 w h2).1
  obtain ⟨⟨-, w2, -⟩, -, w5, -⟩ := hx.1 w (by omega)
  rw [h1] at c5
  rw [h2] at u5
  have hrr : ∀ j, j < tN T 11 → (tO T 20 (rp j)).map rp = (tO T 20 j).map rp := fun j hj => by
    have k4 := hk.2.2.2.2.1 j hj
    exact ((hk.2.2.2.2.2 (rp j) j (by omega) hj).mp k4.2).2.2
  cases hq : tO T 20 (tV T 22 c) with
  | none => rw [hq] at c5; cases c5
  | some q =>
    rw [hq] at c5
    have e1 : tV T 22 u = rp q := Option.some.inj c5
    have lq := hk.2.2.1 _ q c2 hq
    rw [e1, hrr q (by omega)] at u5
    cases hr : tO T 20 q with
    | none => rw [hr] at u5; cases u5
    | some r =>
      rw [hr] at u5
      have e2 : tV T 22 w = rp r := Option.some.inj u5
      have lr := hk.2.2.1 q r (by omega) hr
      rw [e2, hrr r (by omega), hk.2.2.2.1 _ q r c2 hq hr] at w5
      cases hw : tO T 23 w with
      | none => rfl
      | some z => rw [hw] at w5; cases w5
theorem isUp_lt (hp : pI T E O v sg rp) {c d : Nat} (hc : c < tN T 16) (h : isUp T d c) : d < c := by
  have hx := hp.2.2.2.2.1
  rcases h with h | ⟨u, h1, h2⟩
  · exact ((hx.1 c hc).2.1.2 d h).1
  · have := ((hx.1 c hc).2.1.2 u h1).1
    have := ((hx.1 u (by omega)).2.1.2 d h2).1
    omega
theorem above_eq (hp : pI T E O v sg rp) {c d : Nat} (hc : c < tN T 16) (hd : d < tN T 16) : (isUp T d c ∧ jt_Mo_isAbove T (nI d) (nI c) = some (T, 1)) ∨ (¬ isUp T d c ∧ jt_Mo_isAbove T (nI d) (nI c) = some (T, 0)) := by
  have hx := hp.2.2.2.2.1
  have h30 := hp.1.2.2.1.2
  obtain ⟨-, ⟨c3, c4⟩, -⟩ := hx.1 c hc
  unfold jt_Mo_isAbove
  rw [tl_n (by omega) (by decide), Option.bind_some, c3]
  cases h1 : tO T 23 c with
  | none =>
    rw [if_pos (show oI none < 0 by decide)]
    exact Or.inr ⟨(fun z => by rcases z with z | ⟨u, z, -⟩ <;> (rw [h1] at z; cases z)), rfl⟩
  | some u =>
    have lu := (c4 u h1).1
    obtain ⟨-, ⟨u3, u4⟩, -⟩ := hx.1 u (by omega)
    rw [if_neg (show ¬ oI (some u) < 0 from nI_pos (by omega)), show oI (some u) = nI u from rfl]
    by_cases hud : nI u = nI d
    · have e := (nI_eq (by omega) (by omega)).mp hud
      rw [if_pos hud]; exact Or.inl ⟨Or.inl (by rw [h1, e]), rfl⟩
    · rw [if_neg hud, tl_n (by omega) (by decide), Option.bind_some, u3]
      by_cases hw : oI (tO T 23 u) = nI d
      · rw [if_pos hw]
        refine Or.inl ⟨Or.inr ⟨u, h1, ?_⟩, rfl⟩
        cases h2 : tO T 23 u with
        | none => rw [h2] at hw; exact absurd (show nI d < 0 by rw [← hw]; decide) (nI_pos (by omega))
        | some w =>
          rw [h2] at hw
          have := (u4 w h2).1
          rw [(nI_eq (by omega) (by omega)).mp hw]
      · rw [if_neg hw]
        refine Or.inr ⟨(fun z => ?_), rfl⟩
        rcases z with z | ⟨u', z1, z2⟩
        · rw [h1] at z; cases z; exact hud rfl
        · rw [h1] at z1; cases z1; rw [z2] at hw; exact hw rfl
end AB
