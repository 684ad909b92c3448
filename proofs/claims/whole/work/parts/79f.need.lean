/-! need -/
def tNeed (T : tT) (d n : Nat) (a b c : Int32) : tT := tset (tset (tset (tset T 15 (upd (T.2 15) (3 * d + n) a)) 16 (upd (T.2 16) (3 * d + n) b)) 17 (upd (T.2 17) (3 * d + n) c)) 14 (upd (T.2 14) d (nI (n + 1)))
section ND
variable {x y : q_S} {A : Nat → Nat} {T : tT} {E : Nat} {ab : Nat → Nat → Nat} {L : Nat → Option (List Nat)} {O : List Nat} {v sg : Nat → Nat → Int32} {rp : Nat → Nat}
/-- what is made beside changes nothing -/
theorem hI_fr (hh : hI x A ab L O v sg rp T) (hJ' : jL y L) (hw' : wf y) (U : ∀ c a, c ≠ 2 → q_al x c a = true → un x y c a) (hai : ∀ t a, q_ai x t a ≠ none → q_ai y t a = q_ai x t a) : hI y A ab L O v sg rp T := by
  obtain ⟨⟨kn, hS, hR⟩, ⟨hJ, hw, l2, l7, l9, l10, l11, ln, li⟩, hDD, hKK, hCC, hBB⟩ := hh
  refine ⟨⟨kn, hS.fu (U _ _ (by decide) hS.1.1) (U _ _ (by decide) hS.2.1.1) (U _ _ (by decide) hS.2.2.1.1) (U _ _ (by decide) hS.2.2.2.1.1) (U _ _ (by decide) hS.2.2.2.2.1.1) (hai _ _ (by rw [hS.2.2.2.2.2.1]; exact fun h => nomatch h)) (hai _ _ (by rw [hS.2.2.2.2.2.2]; exact fun h => nomatch h)), hR⟩, ⟨hJ', hw', l2, l7, l9, l10, l11, ln, li⟩, fun i hi => ⟨(hDD i hi).1.fr (U 6 _ (by decide) (hDD i hi).1.1), fun k hk => ((hDD i hi).2 k hk).fr (U 7 _ (by decide) ((hDD i hi).2 k hk).1)⟩, ⟨fun j hj => (hKK.1 j hj).fr (U 8 _ (by decide) (hKK.1 j hj).1), hKK.2⟩, ⟨fun c hc => ⟨(hCC.1 c hc).1.fr (U 9 _ (by decide) (hCC.1 c hc).1.1), ?_⟩, hCC.2⟩, ⟨fun b hb => ⟨(hBB.1 b hb).1.fr (U 10 _ (by decide) (hBB.1 b hb).1.1), ?_⟩, hBB.2⟩⟩
  · have := (hCC.1 c hc).2
    rw [hai _ _ (by rw [this]; exact fun h => nomatch h)]; exact this
  · obtain ⟨w, w1, w2⟩ := (hBB.1 b hb).2
    exact ⟨w, by rw [hai _ _ (by rw [w1]; exact fun h => nomatch h)]; exact w1, w2⟩
theorem none_yet (hp : pI T E O v sg rp) (h0 : tN T 11 = 0) : tN T 16 = 0 ∧ tN T 23 = 0 := by
  obtain ⟨hC, hD, hk, hB, hx, he, hr⟩ := hp
  have h16 : tN T 16 = 0 := Nat.eq_zero_of_not_pos (fun z => by have := (hx.1 0 z).1.2.1; omega)
  exact ⟨h16, Nat.eq_zero_of_not_pos (fun z => by have := (he.1 0 z).1.2; omega)⟩
set_option maxHeartbeats 1000000 in
theorem pI_need {d n : Nat} {a b c : Int32} (hp : pI T E O v sg rp) (hd : d < tN T 2) (hn : n = tV T 14 d) (h3 : n < 3) (h0 : tN T 11 = 0) (ha : ∃ i, i < 6 ∧ a = nI i) (hb : ∃ i, i < 4 ∧ b = nI i) (hc : nam c ≠ 0) : pI (tNeed T d n a b c) E O v sg rp := by
  have hz := none_yet hp h0
  obtain ⟨hC, hD, hk, hB, hx, he, hr⟩ := hp
  have hd10 := hC.1.2
  refine ⟨hC, ⟨fun i hi => ?_, fun i hi => ?_⟩, hk, hB, hx, ⟨fun b' hb' => absurd (show b' < tN T 23 from hb') (by omega), he.2.1, fun c' d' hc' => absurd (show c' < tN T 16 from hc') (by omega)⟩, hr⟩
  · have hi : i < tN T 2 := hi
    obtain ⟨q1, q2, q3, q4, q5, q6⟩ := hD.1 i hi
    refine ⟨q1, q2, q3, q4, ?_⟩
    show (upd (T.2 14) d (nI (n + 1)) i = nI (upd (T.2 14) d (nI (n + 1)) i).toNatClampNeg ∧ (upd (T.2 14) d (nI (n + 1)) i).toNatClampNeg ≤ 3) ∧ ∀ k, k < (upd (T.2 14) d (nI (n + 1)) i).toNatClampNeg → (upd (T.2 15) (3 * d + n) a (3 * i + k) = nI (upd (T.2 15) (3 * d + n) a (3 * i + k)).toNatClampNeg ∧ (upd (T.2 15) (3 * d + n) a (3 * i + k)).toNatClampNeg < 6) ∧ (upd (T.2 16) (3 * d + n) b (3 * i + k) = nI (upd (T.2 16) (3 * d + n) b (3 * i + k)).toNatClampNeg ∧ (upd (T.2 16) (3 * d + n) b (3 * i + k)).toNatClampNeg < 4) ∧ nam (upd (T.2 17) (3 * d + n) c (3 * i + k)) ≠ 0
    by_cases hid : i = d
    · subst hid
      rw [upd_s, nI_clamp (by omega)]
      refine ⟨⟨rfl, by omega⟩, fun k hk => ?_⟩
      by_cases hkn : k = n
      · subst hkn
        obtain ⟨i1, p1, rfl⟩ := ha
        obtain ⟨i2, p2, rfl⟩ := hb
        rw [upd_s, upd_s, upd_s, nI_clamp (by omega), nI_clamp (by omega)]
        exact ⟨⟨rfl, p1⟩, ⟨rfl, p2⟩, hc⟩
      · rw [upd_n (by omega), upd_n (by omega), upd_n (by omega)]
        exact q6 k (by omega)
    · rw [upd_n hid]
      refine ⟨q5, fun k hk => ?_⟩
      have : tV T 14 i ≤ 3 := q5.2
      have hk' : k < tV T 14 i := hk
      rw [upd_n (by omega), upd_n (by omega), upd_n (by omega)]
      exact q6 k hk'
  · have hi : tN T 2 ≤ i := hi
    show upd (T.2 14) d (nI (n + 1)) i = 0
    rw [upd_n (by omega)]
    exact hD.2 i hi
set_option maxHeartbeats 2000000 in
theorem hI_need {d n e : Nat} {a b c : Int32} {L' : Nat → Option (List Nat)} (hh : hI x A ab L O v sg rp T) (hp : pI T E O v sg rp) (hd : d < tN T 2) (hn : n = tV T 14 d) (h3 : n < 3) (h0 : tN T 11 = 0) (hJ' : jL y L') (hw' : wf y) (hL1 : L' (ab 2 d) = some (ls n (fun k => ab 7 (3 * d + k)) ++ [e])) (hL3 : ∀ q xs, L q = some xs → q ≠ ab 2 d → L' q = some xs) (U : ∀ c a, c ≠ 2 → q_al x c a = true → un x y c a) (hai : q_ai y = q_ai x) (ho : oN y e a b c) : hI y A (adb ab 7 (3 * d + n) e) L' O v sg rp (tNeed T d n a b c) := by
  have hz := none_yet hp h0
  have hD5 := hp.2.1.1
  have hd10 := hp.1.1.2
  obtain ⟨⟨kn, hS, hR⟩, ⟨hJ, hw, l2, l7, l9, l10, l11, ln, li⟩, hDD, hKK, hCC, hBB⟩ := hh
  have ne : ∀ i, i < 5 + tN T 2 → i ≠ 5 + d → la A ab i ≠ ab 2 d := fun i hi hij z => hij (li i (5 + d) hi (by omega) (z.trans (by unfold la; rw [if_neg (by omega), show 5 + d - 5 = d by omega])))
  refine ⟨⟨kn, hS.fu (U _ _ (by decide) hS.1.1) (U _ _ (by decide) hS.2.1.1) (U _ _ (by decide) hS.2.2.1.1) (U _ _ (by decide) hS.2.2.2.1.1) (U _ _ (by decide) hS.2.2.2.2.1.1) (by rw [hai]) (by rw [hai]), hR⟩, ⟨hJ', hw', hL3 _ _ l2 (ne 0 (by omega) (by omega)), hL3 _ _ l7 (ne 1 (by omega) (by omega)), hL3 _ _ l9 (ne 2 (by omega) (by omega)), hL3 _ _ l10 (ne 3 (by omega) (by omega)), hL3 _ _ l11 (ne 4 (by omega) (by omega)), fun i hi => ?_, li⟩, fun i hi => ?_, ⟨fun j hj => absurd (show j < tN T 11 from hj) (by omega), fun i j hi => absurd (show i < tN T 11 from hi) (by omega)⟩, ⟨fun c hc => absurd (show c < tN T 16 from hc) (by omega), fun c d hc => absurd (show c < tN T 16 from hc) (by omega)⟩, ⟨fun b hb => absurd (show b < tN T 23 from hb) (by omega), fun b d hb => absurd (show b < tN T 23 from hb) (by omega)⟩⟩
  · have hi : i < tN T 2 := hi
    have q5 := (hD5 i hi).2.2.2.2.1.2
    show L' (ab 2 i) = some (ls (upd (T.2 14) d (nI (n + 1)) i).toNatClampNeg (fun k => adb ab 7 (3 * d + n) e 7 (3 * i + k)))
    by_cases hid : i = d
    · subst hid
      rw [upd_s, nI_clamp (by omega), ls_s, adb_s, hL1]
      congr 2
      exact ls_c (fun k hk => by rw [adb_n (fun z => by omega)])
    · rw [upd_n hid, ls_c (g := fun k => ab 7 (3 * i + k)) (fun k hk => by have hk' : k < tV T 14 i := hk; rw [adb_n (fun z => by omega)])]
      refine hL3 _ _ (ln i hi) ?_
      have := ne (5 + i) (by omega) (by omega)
      unfold la at this
      rw [if_neg (by omega), show 5 + i - 5 = i by omega] at this
      exact this
  · have hi : i < tN T 2 := hi
    have q5 := (hD5 i hi).2.2.2.2.1.2
    have o := hDD i hi
    refine ⟨o.1.fr (U 6 _ (by decide) o.1.1), fun k hk => ?_⟩
    have hk : k < (upd (T.2 14) d (nI (n + 1)) i).toNatClampNeg := hk
    show oN y (adb ab 7 (3 * d + n) e 7 (3 * i + k)) (upd (T.2 15) (3 * d + n) a (3 * i + k)) (upd (T.2 16) (3 * d + n) b (3 * i + k)) (upd (T.2 17) (3 * d + n) c (3 * i + k))
    by_cases hid : i = d ∧ k = n
    · obtain ⟨rfl, rfl⟩ := hid
      rw [adb_s, upd_s, upd_s, upd_s]; exact ho
    · have hkk : k < tV T 14 i := by
        by_cases h : i = d
        · rw [h, upd_s, nI_clamp (by omega)] at hk
          rw [h]; omega
        · rw [upd_n h] at hk; exact hk
      have hne : 3 * i + k ≠ 3 * d + n := by omega
      rw [adb_n (fun z => hne z.2), upd_n hne, upd_n hne, upd_n hne]
      exact (o.2 k hkk).fr (U 7 _ (by decide) (o.2 k hkk).1)
end ND
section NG
variable {x : q_S} {A : Nat → Nat} {T : tT} {E : Nat}
theorem nI_3 (i j : Nat) : (3 : Int32) * nI i + nI j = nI (3 * i + j) := by
  rw [← nI_add]
  exact congrArg (· + nI j) (Int32.ofNat_mul 3 i).symm
set_option maxHeartbeats 2000000 in
theorem g_need (h : gI x A T E) (hE : E + 100000 ≤ 1000000000) (a b c d : Int32) : gO' A x T E (jf_Bc_need x (A 0) a b c d) (jt_Mo_need T a b c d) := by
  have h0 := h
  obtain ⟨ab, L, O, v, sg, rp, hh, hp, hq⟩ := h
  have hh0 := hh
  obtain ⟨⟨kn, ⟨⟨b1, b2, b3, -⟩, ⟨c1, c2, c3⟩, -⟩, hR⟩, ⟨hJ, hw, l2, l7, -, -, -, ln, -⟩, hDD, -⟩ := hh
  obtain ⟨i2, -, hl⟩ := hJ.1 _ _ l2
  obtain ⟨i7, -, hl7⟩ := hJ.1 _ _ l7
  have e11 := hp.1.2.1
  have e2 := hp.1.1
  have lE := L_isEmpty i2 hl
  rw [ls_len] at lE
  have lS := L_size i7
  rw [ls_len] at lS
  have ein : jt_Mo_in T a 0 (tf T 2 - 1) = some (T, blw a (nI (tN T 2))) := by
    rw [in_eq, show tf T 2 = nI (tN T 2) from e2.1]
    refine congrArg some (Prod.ext rfl (tin_blw ?_))
    have := e2.2
    generalize tN T 2 = n at this
    cases n with
    | zero => decide
    | succ n => rw [nI_pred, nI_toInt (by omega), nI_toInt (by omega)]; omega
  unfold jf_Bc_need jt_Mo_need
  rw [y_gRs b1 b3, Option.bind_some, y_av i2.1, Option.bind_some, lE, Option.bind_some, ein, Option.bind_some]
  dsimp only
  by_cases hz : tN T 11 = 0
  · rw [if_neg (c := (if tN T 11 = 0 then (1 : Int32) else 0) = 0) (by rw [if_pos hz]; decide), y_gRs b1 b2, Option.bind_some, y_av c1, Option.bind_some]
    unfold jf_Ca_size
    rw [y_gRs c1 c3, Option.bind_some, y_av i7.1, Option.bind_some, lS, Option.bind_some, Option.bind_some]
    dsimp only
    rw [isBelow_eq, Option.bind_some]
    dsimp only
    by_cases h1 : blw a (nI (tN T 2)) = 0
    · rw [if_pos h1, if_pos h1]; exact gO_rd (r := 0) h0 hE rfl rfl
    · obtain ⟨i, hi, rfl⟩ := blw_n (by omega) h1
      rw [if_neg h1, if_neg h1, isType_eq, Option.bind_some, asked_eq, Option.bind_some]
      dsimp only
      by_cases h2 : blw b 6 = 0
      · rw [if_pos h2, if_pos h2, if_pos rfl]; exact gO_rd (r := 0) h0 hE rfl rfl
      · rw [if_neg h2, if_neg h2, isQualifier_eq, Option.bind_some]
        dsimp only
        by_cases h3 : blw c 4 = 0
        · rw [if_pos h3, if_pos h3, if_pos rfl]; exact gO_rd (r := 0) h0 hE rfl rfl
        · rw [if_neg h3, if_neg h3, isName_eq, Option.bind_some]
          dsimp only
          by_cases h4 : nam d = 0
          · rw [if_pos h4, if_pos h4, if_pos rfl]; exact gO_rd (r := 0) h0 hE rfl rfl
          · obtain ⟨oi, -⟩ := hDD i hi
            have oi0 := oi
            obtain ⟨o1, o2, o3, o4, o5, o6⟩ := oi
            obtain ⟨-, -, -, -, ⟨n1, n3⟩, -⟩ := hp.2.1.1 i hi
            obtain ⟨n, hn⟩ : ∃ n, n = tV T 14 i := ⟨_, rfl⟩
            have lni := ln i hi
            rw [← hn] at n1 n3 lni
            rw [if_neg h4, if_neg h4, if_neg (by decide), tl_n (by omega) (by decide), Option.bind_some, n1, y_gRs b1 b2, Option.bind_some, y_av c1, Option.bind_some]
            unfold jf_Ca_at
            rw [y_gRs c1 c3, Option.bind_some, y_av i7.1, Option.bind_some, L_get i7 hl7 (by rw [ls_len]; exact hi), ls_get hi, Option.bind_some]
            dsimp only
            rw [y_ck o1, Option.bind_some, Option.bind_some]
            dsimp only
            generalize ht : (if nI n = 3 then some (T, (0 : Int32)) else _) = t
            refine st_nO (G := fun o => gO' A x T E o t) (fun x1 u => ?_)
            have w1 := wf_uN hw u
            have J1 := jL_uN hJ u (by decide)
            have a7 : q_al x1 7 (q_sz x) = true := by rw [u.2.2.2.2.2.1, if_pos ⟨rfl, rfl⟩]
            simp only [jf_Ne_init, jf_Rec_init, Option.bind_assoc, Option.bind_some]
            obtain ⟨e, he⟩ : ∃ e, e = q_sz x := ⟨_, rfl⟩
            rw [← he] at a7 ⊢
            refine st_pI (G := fun o => gO' A x T E o t) a7 (fun x2 v2 => ?_)
            have a72 : q_al x2 7 e = true := by rw [v2.2.2.1]; exact a7
            refine st_pI (G := fun o => gO' A x T E o t) a72 (fun x3 v3 => ?_)
            have a73 : q_al x3 7 e = true := by rw [v3.2.2.1]; exact a72
            refine st_pI (G := fun o => gO' A x T E o t) a73 (fun x4 v4 => ?_)
            have a74 : q_al x4 7 e = true := by rw [v4.2.2.1]; exact a73
            have J4 := jL_uF (jL_uF (jL_uF J1 v2 (by decide)) v3 (by decide)) v4 (by decide)
            have w4 := wf_uF (wf_uF (wf_uF w1 v2) v3) v4
            have f4 := (((cFr_uN u (by decide)).tr (cFr_uF v2 (by decide))).tr (cFr_uF v3 (by decide))).tr (cFr_uF v4 (by decide))
            have U4 : ∀ c a, c ≠ 2 → q_al x c a = true → un x x4 c a := fun c a hc hal => by
              have hn : ¬ (c = 7 ∧ a = e) := fun z => by have := al_lt hw hal; omega
              exact (un_uN u (fun z => hn ⟨z.1, z.2.trans he.symm⟩)).tr ((un_uF v2 hn).tr ((un_uF v3 hn).tr (un_uF v4 hn)))
            have ai4 : q_ai x4 = q_ai x := by rw [v4.2.2.2.1, v3.2.2.2.1, v2.2.2.2.1, u.2.2.1]
            have s4 : q_sz x4 = q_sz x + 1 := by rw [v4.1, v3.1, v2.1, u.1]
            have m4 : q_sl x4 = q_sl x + 3 := by rw [v4.2.1, v3.2.1, v2.2.1, u.2.1]; rfl
            have o4 := oi0.fr (U4 6 _ (by decide) oi0.1)
            have j4 := (J4.1 _ _ lni).1
            refine st_av (G := fun o => gO' A x T E o t) o4.1 ?_
            unfold jf_De_addNeed
            have sz4 := L_size j4
            rw [ls_len] at sz4
            rw [y_gRs o4.1 o4.2.2.2.2.2, Option.bind_some, y_av j4.1, Option.bind_some, sz4, Option.bind_some]
            dsimp only
            by_cases hn3 : n = 3
            · rw [if_pos (by rw [hn3]; rfl)] at ht
              rw [if_neg (c := nI n < 3) (by rw [hn3]; decide), Option.bind_some]
              dsimp only
              rw [if_pos (by decide), ← ht]
              exact ⟨x4, T, 0, rfl, rfl, f4, gI.mono (E := E) ⟨ab, L, O, v, sg, rp, hI_fr hh0 J4 w4 U4 (fun _ _ _ => by rw [ai4]), hp, hq⟩ (by omega) hE, by omega, by omega⟩
            · have hn3' : n < 3 := by omega
              have hti : t = some (tNeed T i n b c d, 1) := by
                rw [← ht, if_neg (show ¬ nI n = (3 : Int32) from fun z => hn3 ((nI_eq (b := 3) (by omega) (by decide)).mp z)), if_pos (show tf T 11 ≤ 0 by rw [show tf T 11 = nI (tN T 11) from e11.1, hz]; decide), Option.bind_some, nI_3, tw_n (by omega) (by decide), Option.bind_some, tw_n (by omega) (by decide), Option.bind_some, tw_n (by omega) (by decide), Option.bind_some, tl_n (by omega) (by decide), Option.bind_some, tw_n (by omega) (by decide), Option.bind_some]
                refine congrArg some (Prod.ext ?_ rfl)
                show tset _ 14 (upd (T.2 14) i (T.2 14 i + 1)) = tset _ 14 (upd (T.2 14) i (nI (n + 1)))
                rw [n1, nI_1]; rfl
              rw [if_pos (c := nI n < 3) (nI_lt (a := n) (b := 3) hn3' (by decide)), y_gRs o4.1 o4.2.2.2.2.2, Option.bind_some, y_av j4.1, Option.bind_some]
              obtain ⟨y, g1, g2, g3⟩ := L_add J4 lni w4 (q_ok_c a74 (by decide)) (by rw [ls_len]; omega)
              rw [g1, Option.bind_some, Option.bind_some]
              dsimp only
              rw [if_pos (by decide), hti]
              have h5 := g3.2.2.2.2.2.1
              have h6 := g3.2.2.2.2.2.2.2.1
              have fe : ∀ j, q_fd y 7 j e = q_fd x4 7 j e := fun j => by rw [g3.2.2.2.1 7 (by decide)]
              have oe : oN y e b c d := by
                refine ⟨by rw [g3.1]; exact a74, ?_, ?_, ?_⟩
                · rw [fe, v4.2.2.2.2.2.2, if_neg (fun z => by cases z.2.1), v3.2.2.2.2.2.2, if_neg (fun z => by cases z.2.1), v2.2.2.2.2.2.2, if_pos ⟨rfl, rfl, rfl⟩]
                · rw [fe, v4.2.2.2.2.2.2, if_neg (fun z => by cases z.2.1), v3.2.2.2.2.2.2, if_pos ⟨rfl, rfl, rfl⟩]
                · rw [fe, v4.2.2.2.2.2.2, if_pos ⟨rfl, rfl, rfl⟩]
              have H' := hI_need hh0 hp hi hn hn3' hz g2 g3.2.2.2.2.2.2.2.2 (if_pos rfl) (fun q xs hq hne => (if_neg hne).trans hq) (fun c a hc hal => (U4 c a hc hal).tr (un_oL g3 hc)) (by rw [g3.2.1, ai4]) oe
              exact ⟨y, _, 1, rfl, rfl, f4.tr (cFr_oL g3), gI.mono (E := E) ⟨_, _, O, v, sg, rp, H', pI_need hp hi hn hn3' hz (blw_n (n := 6) (by decide) h2) (blw_n (n := 4) (by decide) h3) h4, hq⟩ (by omega) hE, by omega, (show q_sl y + 2000 * tN T 23 ≤ q_sl x + 10000 + 2000 * tN T 23 by omega)⟩
  · rw [if_pos (c := (if tN T 11 = 0 then (1 : Int32) else 0) = 0) (by rw [if_neg hz])]
    refine gO_rd (r := 0) h0 hE rfl ?_
    by_cases h1 : blw a (nI (tN T 2)) = 0
    · rw [if_pos h1]
    · obtain ⟨i, hi, rfl⟩ := blw_n (by omega) h1
      rw [if_neg h1, asked_eq, Option.bind_some]
      dsimp only
      generalize (if blw b 6 = 0 then (0 : Int32) else if blw c 4 = 0 then 0 else if nam d = 0 then 0 else 1) = w1
      by_cases hw1 : w1 = 0
      · rw [if_pos hw1]
      · rw [if_neg hw1, tl_n (by omega) (by decide), Option.bind_some, if_neg (c := tf T 11 ≤ 0) (by rw [show tf T 11 = nI (tN T 11) from e11.1]; exact nI_nle (by omega) (by omega))]
        exact ite_self _
end NG
