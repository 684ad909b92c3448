/-! Calls that read beans and the journal. -/
theorem nI_sub {a b : Nat} (h : b ≤ a) : nI a - nI b = nI (a - b) := by
  have e : nI a = nI (a - b) + nI b := by rw [nI_add]; congr 1; omega
  rw [e, Int32.add_sub_cancel]
theorem cS.fu {x y : q_S} {A : Nat → Nat} {dn cap tot : Int32} {kn rg : Nat → Int32} (h : cS x A dn cap tot kn rg) (u0 : un x y 0 (A 0)) (u1 : un x y 1 (A 1)) (u3 : un x y 3 (A 3)) (u4 : un x y 4 (A 4)) (u5 : un x y 5 (A 5)) (i1 : q_ai y 1 (A 6) = q_ai x 1 (A 6)) (i3 : q_ai y 3 (A 8) = q_ai x 3 (A 8)) : cS y A dn cap tot kn rg := by
  unfold cS at h ⊢
  rw [u0.2, u0.2, u0.2, u0.2, u0.2, u0.2, u1.2, u1.2, u3.2, u3.2, u4.2, u4.2, u4.2, u5.2, u5.2, u5.2, u5.2, u5.2, i1, i3]
  obtain ⟨⟨a0, r0⟩, ⟨a1, r1⟩, ⟨a3, r3⟩, ⟨a4, r4⟩, ⟨a5, r5⟩, r⟩ := h
  exact ⟨⟨u0.1 a0, r0⟩, ⟨u1.1 a1, r1⟩, ⟨u3.1 a3, r3⟩, ⟨u4.1 a4, r4⟩, ⟨u5.1 a5, r5⟩, r⟩
section RD
variable {x : q_S} {A : Nat → Nat} {T : tT} {E : Nat}
theorem g_event (h : gI x A T E) (hE : E + 100000 ≤ 1000000000) (a : Int32) : gO' A x T E (jf_Bc_event x (A 0) a) (jt_Mo_event T a) := by
  have h0 := h
  obtain ⟨ab, L, O, v, sg, rp, ⟨⟨kn, ⟨⟨b1, b2, b3, b4, b5, b6, b7⟩, ⟨c1, c2, c3⟩, ⟨j1, j2, j3⟩, -, -, -, r1⟩, -⟩, -⟩, ⟨hc, -⟩, -⟩ := h
  obtain ⟨t1, t2⟩ := hc.2.2.2.2.2.2.1
  unfold jf_Bc_event jt_Mo_event
  rw [y_gRs b1 b4, Option.bind_some, y_av j1, Option.bind_some, in_eq, Option.bind_some, tin_blw (b := 32) (by decide)]
  unfold jf_Jo_before
  rw [isBelow_eq, Option.bind_some]
  dsimp only
  by_cases hb : blw a 32 = 0
  · rw [if_pos hb, if_pos hb]; exact gO_rd (r := -1) h0 hE rfl rfl
  · obtain ⟨i, hi, rfl⟩ := blw_n (n := 32) (by decide) hb
    rw [if_neg hb, if_neg hb, y_gI j1 j3, Option.bind_some, show tf T 38 = T.1 38 from rfl, t1]
    have hn : tN T 38 < 2 ^ 31 := by omega
    by_cases hl : nI i < nI (tN T 38)
    · have hl' := (nI_ltI (by omega) hn).mp hl
      have e : (nI (tN T 38) - 1 - nI i) - (nI (tN T 38) - 1 - nI i) / 32 * 32 = nI ((tN T 38 - 1 - i) % 32) := by
        rw [show nI (tN T 38) - 1 = nI (tN T 38 - 1) from nI_sub (b := 1) (by omega), nI_sub (by omega)]
        exact pk_rem (d := 32) (by omega) (by decide) (by decide)
      have hm : (tN T 38 - 1 - i) % 32 < 32 := Nat.mod_lt _ (by decide)
      rw [if_pos hl, if_pos hl, y_gRs j1 j2, Option.bind_some, Option.bind_some, e, y_lI r1 hm (by decide), Option.bind_some, Option.bind_some, tl_n hm (by decide), Option.bind_some]
      exact gO_rd h0 hE rfl rfl
    · rw [if_neg hl, if_neg hl]; exact gO_rd (r := -1) h0 hE rfl rfl
theorem g_live {ab : Nat → Nat → Nat} {L : Nat → Option (List Nat)} {O : List Nat} {v sg : Nat → Nat → Int32} {rp : Nat → Nat} (hh : hI x A ab L O v sg rp T) (hp : pI T E O v sg rp) (hq : qI T v) (a : Int32) : (jf_Wo_liveBean x (A 4) a = some (x, none) ∧ jt_Mo_live T a = some (T, 0)) ∨ ∃ b, b < tN T 23 ∧ a = nI b ∧ jf_Wo_liveBean x (A 4) a = some (x, some (ab 10 b)) ∧ jt_Mo_live T a = some (T, 1) := by
  obtain ⟨⟨kn, ⟨-, -, -, ⟨w1, w2, w3, w4⟩, -⟩, -⟩, ⟨hJ, hw, l2, l7, l9, -⟩, -, -, hCC, hBB⟩ := hh
  obtain ⟨hc, hd, hk, hb, hx, he, hr⟩ := hp
  obtain ⟨t1, t2⟩ := hc.2.2.2.1
  obtain ⟨i9, -, hl⟩ := hJ.1 _ _ l9
  have e1 : jt_Mo_in T a 0 (tf T 23 - 1) = some (T, blw a (nI (tN T 23))) := by
    rw [in_eq, show tf T 23 = nI (tN T 23) from t1]
    refine congrArg some (Prod.ext rfl (tin_blw ?_))
    generalize tN T 23 = n at t2
    cases n with
    | zero => decide
    | succ n => rw [nI_pred, nI_toInt (by omega), nI_toInt (by omega)]; omega
  unfold jf_Wo_liveBean jt_Mo_live
  rw [e1, Option.bind_some, y_gRs w1 w4, Option.bind_some, y_av i9.1, Option.bind_some, L_size i9, Option.bind_some, ls_len]
  dsimp only
  rw [isBelow_eq, Option.bind_some]
  dsimp only
  by_cases hb0 : blw a (nI (tN T 23)) = 0
  · rw [if_pos hb0, if_pos hb0]; exact Or.inl ⟨rfl, rfl⟩
  · obtain ⟨b, hbb, rfl⟩ := blw_n (by omega) hb0
    obtain ⟨⟨o1, o2, o3, o4, -⟩, -⟩ := hBB.1 b hbb
    obtain ⟨⟨q1, q2⟩, -, -, q3, -⟩ := he.1 b hbb
    obtain ⟨⟨g1, g2, g3, g4, g5, g6, g7, g8⟩, -⟩ := hCC.1 _ q2
    rw [if_neg hb0, if_neg hb0, y_gRs w1 w4, Option.bind_some, y_av i9.1, Option.bind_some, L_get i9 hl (by rw [ls_len]; exact hbb), ls_get hbb, Option.bind_some]
    dsimp only
    rw [y_ck o1, Option.bind_some, y_gRs o1 o3, Option.bind_some, y_gI g1 g8, Option.bind_some, tl_n (by omega) (by decide), Option.bind_some, q3]
    by_cases hv : v 1 (tV T 25 b) = 0
    · rw [if_pos hv, if_pos hv]; exact Or.inr ⟨b, hbb, rfl, rfl, rfl⟩
    · rw [if_neg hv, if_neg hv]; exact Or.inl ⟨rfl, rfl⟩
theorem g_definition (h : gI x A T E) (hE : E + 100000 ≤ 1000000000) (a : Int32) : gO' A x T E (jf_Bc_definition x (A 0) a) (jt_Mo_definition T a) := by
  have h0 := h
  obtain ⟨ab, L, O, v, sg, rp, hh, hp, hq⟩ := h
  have hl := g_live hh hp hq a
  obtain ⟨⟨kn, ⟨⟨b1, b2, b3, b4, b5, b6, b7⟩, -, -, ⟨w1, -⟩, -⟩, -⟩, -, -, -, -, hBB⟩ := hh
  have hn := hp.1.2.2.2.1.2
  unfold jf_Bc_definition jt_Mo_definition
  rw [y_gRs b1 b5, Option.bind_some, y_av w1, Option.bind_some]
  rcases hl with ⟨e1, e2⟩ | ⟨b, hb, rfl, e1, e2⟩
  · rw [e1, e2]; exact gO_rd (r := -1) h0 hE rfl rfl
  · obtain ⟨⟨o1, o2, -⟩, -⟩ := hBB.1 b hb
    rw [e1, e2, Option.bind_some, Option.bind_some]
    dsimp only
    rw [if_neg (fun z => by cases z), if_neg (by decide), y_gI o1 o2, Option.bind_some, tl_n (by omega) (by decide), Option.bind_some]
    exact gO_rd h0 hE rfl rfl
theorem wl_3 {O : List Nat} {v sg : Nat → Nat → Int32} {rp : Nat → Nat} (hp : pI T E O v sg rp) {b : Nat} (hb : b < tN T 23) : wl T b ≤ 3 := by
  obtain ⟨hc, hd, hk, hbb, hx, he, hr⟩ := hp
  obtain ⟨-, ⟨q1, q2⟩, -⟩ := he.1 b hb
  have := (hd.1 _ q2).2.2.2.2.1.2
  unfold wl
  split <;> omega
theorem g_wired (h : gI x A T E) (hE : E + 100000 ≤ 1000000000) (a k : Int32) : gO' A x T E (jf_Bc_wired x (A 0) a k) (jt_Mo_wired T a k) := by
  have h0 := h
  obtain ⟨ab, L, O, v, sg, rp, hh, hp, hq⟩ := h
  have hl := g_live hh hp hq a
  obtain ⟨⟨kn, ⟨⟨b1, b2, b3, b4, b5, b6, b7⟩, -, -, ⟨w1, -⟩, -⟩, -⟩, -, -, -, -, hBB⟩ := hh
  have hn := hp.1.2.2.2.1.2
  unfold jf_Bc_wired jt_Mo_wired
  rw [y_gRs b1 b5, Option.bind_some, y_av w1, Option.bind_some]
  rcases hl with ⟨e1, e2⟩ | ⟨b, hb, rfl, e1, e2⟩
  · rw [e1, e2]; exact gO_rd (r := -1) h0 hE rfl rfl
  · obtain ⟨⟨o1, o2, o3, o4, o5, -⟩, w, ow, ov⟩ := hBB.1 b hb
    have h3 := wl_3 hp hb
    obtain ⟨-, -, -, -, -, -, hg⟩ := hp.2.2.2.2.2.1.1 b hb
    rw [e1, e2, Option.bind_some, Option.bind_some]
    dsimp only
    rw [if_neg (fun z => by cases z), if_neg (by decide), y_gRs o1 o5, Option.bind_some, y_len ow, Option.bind_some, isBelow_eq, Option.bind_some, in_eq, Option.bind_some, tin_blw (b := 3) (by decide)]
    dsimp only
    by_cases hk : blw k 3 = 0
    · have hk' : blw k (nI (wl T b)) = 0 := Classical.byContradiction (fun z => by
        obtain ⟨i, hi, rfl⟩ := blw_n (by omega) z
        have := blw_of (i := i) (n := 3) (by omega) (by decide)
        rw [show blw (nI i) 3 = 1 from this] at hk
        exact absurd hk (by decide))
      rw [if_pos hk, if_pos hk']; exact gO_rd (r := -1) h0 hE rfl rfl
    · obtain ⟨i, hi, rfl⟩ := blw_n (n := 3) (by decide) hk
      obtain ⟨g1, g2, g3⟩ := hg i hi
      have e3 : (3 : Int32) * nI b + nI i = nI (3 * b + i) := by
        rw [← nI_add]
        exact congrArg (· + nI i) (Int32.ofNat_mul 3 b).symm
      rw [if_neg hk, e3, tl_n (by omega) (by decide), Option.bind_some]
      by_cases hw : i < wl T b
      · rw [if_neg (by rw [blw_of hw (by omega)]; decide), y_gRs o1 o5, Option.bind_some, y_lI ow hw (by omega), Option.bind_some, ov i hw]
        exact gO_rd h0 hE rfl rfl
      · have hz : blw (nI i) (nI (wl T b)) = 0 := Classical.byContradiction (fun z => by
          obtain ⟨i', hi', e⟩ := blw_n (by omega) z
          have := (nI_eq (by omega) (by omega)).mp e
          omega)
        rw [if_pos hz, g1, g3.mpr (by omega)]
        exact gO_rd (r := -1) h0 hE rfl rfl
end RD
