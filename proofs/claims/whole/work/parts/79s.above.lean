section AC
variable {x : q_S} {A : Nat → Nat} {T : tT} {E : Nat} {ab : Nat → Nat → Nat} {L : Nat → Option (List Nat)} {O : List Nat} {v sg : Nat → Nat → Int32} {rp : Nat → Nat}
theorem hasA_s {n : Nat} {l : Option Nat} {a : Nat} : jf_Co_hasAncestor_L5 (n + 1) x l (some a) = if some a = l then some (x, 1) else (q_gR x (some a) 9 2).bind fun v5 => jf_Co_hasAncestor_L5 n x l v5 := by
  show jf_Co_hasAncestor_B5 (jf_Co_hasAncestor_L5 n) x l (some a) = _
  unfold jf_Co_hasAncestor_B5
  rw [if_neg (fun z => by cases z)]
theorem hasA_0 {n : Nat} {l : Option Nat} : jf_Co_hasAncestor_L5 (n + 1) x l none = some (x, 0) := by
  show jf_Co_hasAncestor_B5 (jf_Co_hasAncestor_L5 n) x l none = _
  unfold jf_Co_hasAncestor_B5
  rw [if_pos rfl]
theorem hasA_eq (hh : hI x A ab L O v sg rp T) (hp : pI T E O v sg rp) {c d : Nat} (hc : c < tN T 16) (hd : d < tN T 16) : (isUp T d c ∧ jf_Co_hasAncestor x (ab 9 c) (some (ab 9 d)) = some (x, 1)) ∨ (¬ isUp T d c ∧ jf_Co_hasAncestor x (ab 9 c) (some (ab 9 d)) = some (x, 0)) := by
  have hCC := hh.2.2.2.2.1
  have hx := hp.2.2.2.2.1
  have c4 := (hx.1 c hc).2.1.2
  obtain ⟨⟨g1, -, -, g4, -⟩, -⟩ := hCC.1 c hc
  unfold jf_Co_hasAncestor
  rw [y_gR g1 g4, Option.bind_some, show lpK = 997 + 1 + 1 + 1 from rfl]
  cases h1 : tO T 23 c with
  | none =>
    rw [show Option.map (ab 9) none = none from rfl, hasA_0]
    exact Or.inr ⟨(fun z => by rcases z with z | ⟨u, z, -⟩ <;> (rw [h1] at z; cases z)), rfl⟩
  | some u =>
    have lu := (c4 u h1).1
    have u4 := (hx.1 u (by omega)).2.1.2
    obtain ⟨⟨p1, -, -, p4, -⟩, -⟩ := hCC.1 u (by omega)
    rw [show Option.map (ab 9) (some u) = some (ab 9 u) from rfl, hasA_s]
    by_cases e1 : u = d
    · rw [if_pos (by rw [e1])]; exact Or.inl ⟨Or.inl (by rw [h1, e1]), rfl⟩
    · rw [if_neg (fun z => e1 ((hCC.2 u d (by omega) hd).1 (Option.some.inj z))), y_gR p1 p4, Option.bind_some]
      cases h2 : tO T 23 u with
      | none =>
        rw [show Option.map (ab 9) none = none from rfl, hasA_0]
        refine Or.inr ⟨(fun z => ?_), rfl⟩
        rcases z with z | ⟨u', z1, z2⟩
        · rw [h1] at z; cases z; exact e1 rfl
        · rw [h1] at z1; cases z1; rw [h2] at z2; cases z2
      | some w =>
        have lw := (u4 w h2).1
        obtain ⟨⟨q1, -, -, q4, -⟩, -⟩ := hCC.1 w (by omega)
        rw [show Option.map (ab 9) (some w) = some (ab 9 w) from rfl, hasA_s]
        by_cases e2 : w = d
        · rw [if_pos (by rw [e2])]; exact Or.inl ⟨Or.inr ⟨u, h1, by rw [h2, e2]⟩, rfl⟩
        · rw [if_neg (fun z => e2 ((hCC.2 w d (by omega) hd).1 (Option.some.inj z))), y_gR q1 q4, Option.bind_some, top3 hp hc h1 h2, show Option.map (ab 9) none = none from rfl, hasA_0]
          refine Or.inr ⟨(fun z => ?_), rfl⟩
          rcases z with z | ⟨u', z1, z2⟩
          · rw [h1] at z; cases z; exact e1 rfl
          · rw [h1] at z1; cases z1; rw [h2] at z2; cases z2; exact e2 rfl
end AC
