section CY
variable {x : q_S} {A : Nat → Nat} {T : tT} {E : Nat} {ab : Nat → Nat → Nat} {L : Nat → Option (List Nat)} {O : List Nat} {v sg : Nat → Nat → Int32} {rp : Nat → Nat}
theorem g_ctx (hh : hI x A ab L O v sg rp T) (hp : pI T E O v sg rp) (hq : qI T v) (a : Int32) : (jf_Bc_contextOf x (A 0) a = some (x, none) ∧ jt_Mo_cachedFor T a = some (T, -1)) ∨ ∃ c, c ∈ O ∧ c < tN T 16 ∧ T.2 101 c = 1 ∧ jf_Bc_contextOf x (A 0) a = some (x, some (ab 9 c)) ∧ jt_Mo_cachedFor T a = some (T, nI c) := by
  have hh0 := hh
  have hC := g_isConf (E := E) ⟨ab, L, O, v, sg, rp, hh, hp, hq⟩ a
  obtain ⟨⟨kn, ⟨⟨b1, b2, b3, b4, b5, b6, b7⟩, -, -, -, ⟨s1, -⟩, -⟩, hR⟩, ⟨hJ, hw, l2, -⟩, -, hKK, -⟩ := hh
  obtain ⟨i2, -, hl2⟩ := hJ.1 _ _ l2
  have h8 := hp.1.2.1.2
  have hk := hp.2.2.1
  have h6 := hp.1.2.2.2.2.1.2.2
  have hlen := hp.2.2.2.2.2.2.2.2.1
  unfold jf_Bc_contextOf jt_Mo_cachedFor
  rw [y_av b1, Option.bind_some, hC.1, Option.bind_some, hC.2, Option.bind_some]
  dsimp only
  by_cases hb : blw a (nI (tN T 11)) = 0
  · rw [if_pos hb, if_pos hb]; exact Or.inl ⟨rfl, rfl⟩
  · obtain ⟨j, hj, rfl⟩ := blw_n (by omega) hb
    have oj := (hKK.1 j hj).1
    have hrj := (hk.2.2.2.2.1 j hj).1
    obtain ⟨o, ho, e1⟩ := ctx_L hp (k := rp j) (by omega) lpK (tN T 16) 0 (Nat.zero_add _) (by have := hp.1.2.2.1.2; unfold lpK; omega) (fun c hc => absurd hc (Nat.not_lt_zero c))
    obtain ⟨p, hpp, e2⟩ := cxf_L hh0 hp hj lpK O.length 0 (Nat.zero_add _) (by unfold lpK; omega) (fun p c hc => absurd hc (Nat.not_lt_zero p))
    have e := isCx_u ho hpp
    subst e
    rw [if_neg hb, if_neg hb, y_gRs b1 b6, Option.bind_some, y_gRs b1 b3, Option.bind_some, y_av i2.1, Option.bind_some, L_get i2 hl2 (by rw [ls_len]; exact hj), ls_get hj, Option.bind_some, key_eq hk hp.1.2.1.1 hj, Option.bind_some]
    dsimp only
    unfold jf_Sh_cachedFor jt_Mo_contextOf
    rw [y_ck oj, Option.bind_some, y_av s1, Option.bind_some, show jf_Sh_cachedFor_L2 lpK x (A 5) (some (ab 8 j)) 0 = some (x, o.map (ab 9)) from e2, show jt_Mo_contextOf_L2 lpK T (nI (rp j)) 0 = some (T, oI o) from e1]
    cases hoo : o with
    | none => exact Or.inl ⟨rfl, rfl⟩
    | some c =>
      have hc := ((ho c).mp hoo).1
      have := (hp.2.2.2.2.2.2.1 c).mp hc
      exact Or.inr ⟨c, hc, this.1, this.2, rfl, rfl⟩
end CY
