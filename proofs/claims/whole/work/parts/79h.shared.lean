/-! The shared key: found, or made anew. -/
def mtc (T : tT) (ab : Nat → Nat → Nat) (i1 m1 : Int32) (pk : Option Nat) (k : Nat) : Prop := T.2 18 k = i1 ∧ T.2 19 k = m1 ∧ (tO T 20 k).map (ab 8) = pk
section SK
variable {x : q_S} {A : Nat → Nat} {T : tT} {E : Nat} {ab : Nat → Nat → Nat} {L : Nat → Option (List Nat)} {O : List Nat} {v sg : Nat → Nat → Int32} {rp : Nat → Nat}
/-- a key made anew at the end of the heap -/
def NK (x y : q_S) (T : tT) (L : Nat → Option (List Nat)) (i1 m1 : Int32) (pk : Option Nat) : Prop := ∃ sng eag : Int32, oK y (q_sz x) (nI (tN T 11)) i1 m1 sng eag pk 0 ∧ (∀ d, d < 32 → (hs sng d ↔ hs m1 d ∨ (hs i1 d ∧ ¬ (d < tN T 2 ∧ T.2 11 d &&& 4 ≠ 0)))) ∧ (∀ d, d < 32 → (hs eag d ↔ hs m1 d ∨ (hs sng d ∧ ¬ (d < tN T 2 ∧ T.2 11 d &&& 2 ≠ 0)))) ∧ jL y L ∧ wf y ∧ (∀ c a, c ≠ 2 → q_al x c a = true → un x y c a) ∧ q_ai y = q_ai x ∧ cFr x y ∧ q_sz y = q_sz x + 1 ∧ q_sl y = q_sl x + 7
set_option maxHeartbeats 2000000 in
theorem shK_new (hh : hI x A ab L O v sg rp T) (hp : pI T E O v sg rp) (i1 m1 : Int32) (pk : Option Nat) : ∃ y, ((q_gR x (some (A 0)) 0 0).bind fun v8 => (q_av x v8 1).bind fun b12 => (jf_Ca_flagged x b12 4).bind fun p10 => (q_gR p10.1 (some (A 0)) 0 0).bind fun v14 => (q_av p10.1 v14 1).bind fun b18 => (jf_Ca_flagged p10.1 b18 2).bind fun p16 => (q_nO p16.1 8 jdv_8).bind fun x20 => (q_gR x20 (some (A 0)) 0 1).bind fun v22 => (q_av x20 v22 2).bind fun b26 => (jf_AL_size x20 b26).bind fun p24 => (jf_Ke_init p24.1 (q_sz p16.1) p24.2 i1 m1 (m1 ||| (i1 &&& (p10.2 ^^^ (-1)))) (m1 ||| ((m1 ||| (i1 &&& (p10.2 ^^^ (-1)))) &&& (p16.2 ^^^ (-1)))) pk).bind fun p28 => some (p28.1, (some (q_sz p16.1)))) = some (y, some (q_sz x)) ∧ NK x y T L i1 m1 pk := by
  have h10 := hp.1.1.2
  obtain ⟨s4, f4, g4⟩ := flg_eq hh h10 4
  obtain ⟨s2, f2, g2⟩ := flg_eq hh h10 2
  obtain ⟨⟨kn, ⟨⟨b1, b2, b3, -⟩, ⟨c1, c2, c3⟩, -⟩, hR⟩, ⟨hJ, hw, l2, -⟩, -⟩ := hh
  rw [y_gRs b1 b2, Option.bind_some, y_av c1, Option.bind_some, f4, Option.bind_some]
  dsimp only
  rw [y_gRs b1 b2, Option.bind_some, y_av c1, Option.bind_some, f2, Option.bind_some]
  dsimp only
  refine st_nO (G := fun o => ∃ y, o = some (y, some (q_sz x)) ∧ NK x y T L i1 m1 pk) (fun x1 u => ?_)
  have w1 := wf_uN hw u
  have J1 := jL_uN hJ u (by decide)
  obtain ⟨e, he⟩ : ∃ e, e = q_sz x := ⟨_, rfl⟩
  have a8 : q_al x1 8 e = true := by rw [u.2.2.2.2.2.1, if_pos ⟨rfl, he⟩]
  have n6 : q_fd x1 8 6 e = .int 0 := by rw [u.2.2.2.2.2.2, if_pos ⟨rfl, he⟩]; rfl
  rw [← he]
  have k0 : q_al x1 0 (A 0) = true := uN_al u b1
  have k3 : q_fd x1 0 1 (A 0) = .ref (A 2) := by rw [u.2.2.2.2.2.2, if_neg (fun z => by cases z.1)]; exact b3
  have kl := (J1.1 _ _ l2).1
  rw [y_gRs k0 k3, Option.bind_some, y_av kl.1, Option.bind_some, L_size kl, ls_len, Option.bind_some]
  simp only [jf_Ke_init, Option.bind_assoc, Option.bind_some]
  refine st_pI (G := fun o => ∃ y, o = some (y, some e) ∧ NK x y T L i1 m1 pk) a8 (fun x2 v2 => ?_)
  have a82 : q_al x2 8 e = true := by rw [v2.2.2.1]; exact a8
  refine st_pI (G := fun o => ∃ y, o = some (y, some e) ∧ NK x y T L i1 m1 pk) a82 (fun x3 v3 => ?_)
  have a83 : q_al x3 8 e = true := by rw [v3.2.2.1]; exact a82
  refine st_pI (G := fun o => ∃ y, o = some (y, some e) ∧ NK x y T L i1 m1 pk) a83 (fun x4 v4 => ?_)
  have a84 : q_al x4 8 e = true := by rw [v4.2.2.1]; exact a83
  refine st_pI (G := fun o => ∃ y, o = some (y, some e) ∧ NK x y T L i1 m1 pk) a84 (fun x5 v5 => ?_)
  have a85 : q_al x5 8 e = true := by rw [v5.2.2.1]; exact a84
  refine st_pI (G := fun o => ∃ y, o = some (y, some e) ∧ NK x y T L i1 m1 pk) a85 (fun x6 v6 => ?_)
  have a86 : q_al x6 8 e = true := by rw [v6.2.2.1]; exact a85
  refine st_pR (G := fun o => ∃ y, o = some (y, some e) ∧ NK x y T L i1 m1 pk) a86 (fun x7 v7 => ?_)
  have a87 : q_al x7 8 e = true := by rw [v7.2.2.1]; exact a86
  have hm : ∀ d, d < 32 → (hs (m1 ||| (i1 &&& (s4 ^^^ (-1)))) d ↔ hs m1 d ∨ (hs i1 d ∧ ¬ (d < tN T 2 ∧ T.2 11 d &&& 4 ≠ 0))) := fun d hd => by
    rw [hs_or, hs_and hd, hs_not hd, g4 d hd]
  have hg : ∀ sn : Int32, ∀ d, d < 32 → (hs (m1 ||| (sn &&& (s2 ^^^ (-1)))) d ↔ hs m1 d ∨ (hs sn d ∧ ¬ (d < tN T 2 ∧ T.2 11 d &&& 2 ≠ 0))) := fun sn d hd => by
    rw [hs_or, hs_and hd, hs_not hd, g2 d hd]
  refine ⟨x7, rfl, m1 ||| (i1 &&& (s4 ^^^ (-1))), m1 ||| ((m1 ||| (i1 &&& (s4 ^^^ (-1)))) &&& (s2 ^^^ (-1))), ?_, hm, hg _, jL_uF (jL_uF (jL_uF (jL_uF (jL_uF (jL_uF J1 v2 (by decide)) v3 (by decide)) v4 (by decide)) v5 (by decide)) v6 (by decide)) v7 (by decide), wf_uF (wf_uF (wf_uF (wf_uF (wf_uF (wf_uF w1 v2) v3) v4) v5) v6) v7, fun c a hc hal => ?_, by rw [v7.2.2.2.1, v6.2.2.2.1, v5.2.2.2.1, v4.2.2.2.1, v3.2.2.2.1, v2.2.2.2.1, u.2.2.1], (((((cFr_uN u (by decide)).tr (cFr_uF v2 (by decide))).tr (cFr_uF v3 (by decide))).tr (cFr_uF v4 (by decide))).tr (cFr_uF v5 (by decide))).tr ((cFr_uF v6 (by decide)).tr (cFr_uF v7 (by decide))), by rw [v7.1, v6.1, v5.1, v4.1, v3.1, v2.1, u.1], by rw [v7.2.1, v6.2.1, v5.2.1, v4.2.1, v3.2.1, v2.2.1, u.2.1]; rfl⟩
  · rw [← he]
    refine ⟨a87, ?_, ?_, ?_, ?_, ?_, ?_, ?_⟩
    · rw [v7.2.2.2.2.2.2, if_neg (fun z => by cases z.2.1), v6.2.2.2.2.2.2, if_neg (fun z => by cases z.2.1), v5.2.2.2.2.2.2, if_neg (fun z => by cases z.2.1), v4.2.2.2.2.2.2, if_neg (fun z => by cases z.2.1), v3.2.2.2.2.2.2, if_neg (fun z => by cases z.2.1), v2.2.2.2.2.2.2, if_pos ⟨rfl, rfl, rfl⟩]
    · rw [v7.2.2.2.2.2.2, if_neg (fun z => by cases z.2.1), v6.2.2.2.2.2.2, if_neg (fun z => by cases z.2.1), v5.2.2.2.2.2.2, if_neg (fun z => by cases z.2.1), v4.2.2.2.2.2.2, if_neg (fun z => by cases z.2.1), v3.2.2.2.2.2.2, if_pos ⟨rfl, rfl, rfl⟩]
    · rw [v7.2.2.2.2.2.2, if_neg (fun z => by cases z.2.1), v6.2.2.2.2.2.2, if_neg (fun z => by cases z.2.1), v5.2.2.2.2.2.2, if_neg (fun z => by cases z.2.1), v4.2.2.2.2.2.2, if_pos ⟨rfl, rfl, rfl⟩]
    · rw [v7.2.2.2.2.2.2, if_neg (fun z => by cases z.2.1), v6.2.2.2.2.2.2, if_neg (fun z => by cases z.2.1), v5.2.2.2.2.2.2, if_pos ⟨rfl, rfl, rfl⟩]
    · rw [v7.2.2.2.2.2.2, if_neg (fun z => by cases z.2.1), v6.2.2.2.2.2.2, if_pos ⟨rfl, rfl, rfl⟩]
    · rw [v7.2.2.2.2.2.2, if_pos ⟨rfl, rfl, rfl⟩]
    · rw [v7.2.2.2.2.2.2, if_neg (fun z => by cases z.2.1), v6.2.2.2.2.2.2, if_neg (fun z => by cases z.2.1), v5.2.2.2.2.2.2, if_neg (fun z => by cases z.2.1), v4.2.2.2.2.2.2, if_neg (fun z => by cases z.2.1), v3.2.2.2.2.2.2, if_neg (fun z => by cases z.2.1), v2.2.2.2.2.2.2, if_neg (fun z => by cases z.2.1)]
      exact n6
  · have hn : ¬ (c = 8 ∧ a = e) := fun z => by have := al_lt hw hal; omega
    exact (un_uN u (fun z => hn ⟨z.1, z.2.trans he.symm⟩)).tr ((un_uF v2 hn).tr ((un_uF v3 hn).tr ((un_uF v4 hn).tr ((un_uF v5 hn).tr ((un_uF v6 hn).tr (un_uF v7 hn))))))
theorem shK_L (hh : hI x A ab L O v sg rp T) (hp : pI T E O v sg rp) (i1 m1 : Int32) (pk : Option Nat) : ∀ (m r i : Nat), i + r = tN T 11 → r < m → (∀ k, k < i → ¬ mtc T ab i1 m1 pk k) → (∃ j, j < tN T 11 ∧ mtc T ab i1 m1 pk j ∧ jf_Bc_sharedKey_L3 m x (A 0) i1 m1 pk (nI i) = some (x, some (ab 8 j))) ∨ ((∀ k, k < tN T 11 → ¬ mtc T ab i1 m1 pk k) ∧ ∃ y, jf_Bc_sharedKey_L3 m x (A 0) i1 m1 pk (nI i) = some (y, some (q_sz x)) ∧ NK x y T L i1 m1 pk) := by
  have hN := shK_new hh hp i1 m1 pk
  have h8 := hp.1.2.1.2
  obtain ⟨⟨kn, ⟨⟨b1, b2, b3, -⟩, ⟨c1, c2, c3⟩, -⟩, hR⟩, ⟨hJ, hw, l2, -⟩, hDD, hKK, -⟩ := hh
  obtain ⟨i2, -, hl2⟩ := hJ.1 _ _ l2
  have lS := L_size i2
  rw [ls_len] at lS
  intro m
  induction m with
  | zero => intro r i _ h; omega
  | succ m ih =>
    intro r i hr hm hno
    rw [show jf_Bc_sharedKey_L3 (m + 1) x (A 0) i1 m1 pk (nI i) = jf_Bc_sharedKey_B3 (jf_Bc_sharedKey_L3 m) x (A 0) i1 m1 pk (nI i) from rfl]
    unfold jf_Bc_sharedKey_B3
    rw [y_gRs b1 b3, Option.bind_some, y_av i2.1, Option.bind_some, lS, Option.bind_some]
    dsimp only
    cases r with
    | zero =>
      rw [if_pos (nI_le (by omega) (by omega))]
      exact Or.inr ⟨fun k hk => hno k (by omega), hN⟩
    | succ r =>
      have hi : i < tN T 11 := by omega
      obtain ⟨o1, o2, o3, o4, o5, o6, o7, o8⟩ := hKK.1 i hi
      rw [if_neg (nI_ge hi (by omega)), y_gRs b1 b3, Option.bind_some, y_av i2.1, Option.bind_some, L_get i2 hl2 (by rw [ls_len]; exact hi), ls_get hi, Option.bind_some]
      dsimp only
      rw [y_ck o1, Option.bind_some, y_gI o1 o3, Option.bind_some, nI_1]
      have nx : ¬ mtc T ab i1 m1 pk i → ∀ k, k < i + 1 → ¬ mtc T ab i1 m1 pk k := fun h k hk => by
        by_cases hki : k = i
        · rw [hki]; exact h
        · exact hno k (by omega)
      by_cases e1 : T.2 18 i = i1
      · rw [if_pos e1, y_gI o1 o4, Option.bind_some]
        by_cases e2 : T.2 19 i = m1
        · rw [if_pos e2, y_gR o1 o7, Option.bind_some]
          by_cases e3 : (tO T 20 i).map (ab 8) = pk
          · rw [if_pos e3]; exact Or.inl ⟨i, hi, ⟨e1, e2, e3⟩, rfl⟩
          · rw [if_neg e3]; exact ih r (i + 1) (by omega) (by omega) (nx (fun z => e3 z.2.2))
        · rw [if_neg e2]; exact ih r (i + 1) (by omega) (by omega) (nx (fun z => e2 z.2.1))
      · rw [if_neg e1]; exact ih r (i + 1) (by omega) (by omega) (nx (fun z => e1 z.1))
end SK
