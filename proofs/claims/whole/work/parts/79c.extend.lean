/-! extend -/
section EX
variable {x y : q_S} {A : Nat → Nat} {T : tT} {E : Nat} {ab : Nat → Nat → Nat} {L : Nat → Option (List Nat)} {O : List Nat} {v sg : Nat → Nat → Int32} {rp : Nat → Nat}
set_option maxHeartbeats 1000000 in
theorem hI_kn {g kn' : Nat → Int32} (hh : hI x A ab L O v sg rp T) (u : uI x y 1 (A 6) 6 kn') (hR : Rk kn' g) : hI y A ab L O v sg rp (tset T 100 g) := by
  obtain ⟨⟨kn, ⟨c0, c1, c3, c4, c5, ck, cr⟩, -⟩, ⟨hJ, hw, l2, l7, l9, l10, l11, ln, li⟩, hDD, hKK, hCC, hBB⟩ := hh
  have U : ∀ c a, un x y c a := fun c a => un_uI u
  have i1 : q_ai y 1 (A 6) = some (6, kn') := by rw [u.2.2.2.2.2.2, if_pos ⟨rfl, rfl⟩]
  have io : ∀ t a, t ≠ 1 → q_ai y t a = q_ai x t a := fun t a ht => by rw [u.2.2.2.2.2.2, if_neg (fun z => ht z.1)]
  have hcs : cS y A (T.1 22) (T.1 0) (T.1 38) kn' (T.2 35) := by
    have h2 : q_fd y = q_fd x := u.2.2.2.2.2.1
    have h3 : q_al y = q_al x := u.2.2.1
    unfold cS
    rw [h2, h3, i1, io 3 _ (by decide)]
    exact ⟨c0, c1, c3, c4, c5, rfl, cr⟩
  refine ⟨⟨kn', hcs, ?_⟩, ⟨jL_uI hJ u, wf_uI hw u (by rw [ck]; exact fun h => nomatch h), l2, l7, l9, l10, l11, ln, li⟩, fun i hi => ⟨(hDD i hi).1.fr (U 6 _), fun k hk => ((hDD i hi).2 k hk).fr (U 7 _)⟩, ⟨fun j hj => (hKK.1 j hj).fr (U 8 _), hKK.2⟩, ⟨fun c hc => ⟨(hCC.1 c hc).1.fr (U 9 _), by rw [io 2 _ (by decide)]; exact (hCC.1 c hc).2⟩, hCC.2⟩, ⟨fun b hb => ⟨(hBB.1 b hb).1.fr (U 10 _), ?_⟩, hBB.2⟩⟩
  · rw [tset_g]; exact hR
  · obtain ⟨w, w1, w2⟩ := (hBB.1 b hb).2
    exact ⟨w, by rw [io 4 _ (by decide)]; exact w1, w2⟩
theorem pI_100 {g : Nat → Int32} (hp : pI T E O v sg rp) : pI (tset T 100 g) E O v sg rp := by
  obtain ⟨hc, hd, hk, hbb, hx, he, hr⟩ := hp
  exact ⟨hc, hd, hk, hbb, hx, he, hr⟩
set_option maxHeartbeats 1000000 in
theorem g_extend (h : gI x A T E) (hE : E + 100000 ≤ 1000000000) (a b : Int32) : gO' A x T E (jf_Bc_extend x (A 0) a b) (jt_Mo_extend T a b) := by
  have h0 := h
  obtain ⟨ab, L, O, v, sg, rp, hh, hp, hq⟩ := h
  have hh0 := hh
  obtain ⟨⟨kn, ⟨⟨b1, b2, b3, -⟩, ⟨c1, c2, c3⟩, -, -, -, k1, -⟩, hR⟩, ⟨hJ, hw, l2, -⟩, -⟩ := hh
  obtain ⟨i2, -, hl⟩ := hJ.1 _ _ l2
  have e11 := hp.1.2.1
  have lE := L_isEmpty i2 hl
  rw [ls_len] at lE
  unfold jf_Bc_extend jt_Mo_extend
  rw [y_gRs b1 b3, Option.bind_some, y_av i2.1, Option.bind_some, lE, Option.bind_some, in_eq, Option.bind_some, tin_blw (b := 6) (by decide)]
  dsimp only
  -- the reference where configurations stand
  by_cases hz : tN T 11 = 0
  · rw [if_neg (c := (if tN T 11 = 0 then (1 : Int32) else 0) = 0) (by rw [if_pos hz]; decide), isType_eq, Option.bind_some]
    dsimp only
    by_cases h1 : blw a 6 = 0
    · rw [if_pos h1, if_pos h1]; exact gO_rd (r := 0) h0 hE rfl rfl
    · rw [if_neg h1, if_neg h1, isType_eq, Option.bind_some, in_eq, Option.bind_some, tin_blw (b := 6) (by decide)]
      dsimp only
      by_cases h2 : blw b 6 = 0
      · rw [if_pos h2, if_pos h2]; exact gO_rd (r := 0) h0 hE rfl rfl
      · rw [if_neg h2, if_neg h2]
        obtain ⟨i, hi, rfl⟩ := blw_n (n := 6) (by decide) h1
        obtain ⟨j, hj, rfl⟩ := blw_n (n := 6) (by decide) h2
        rw [y_gRs b1 b2, Option.bind_some, y_av c1, Option.bind_some, isKind_eq c1 c2 k1 hj, Option.bind_some, is_eq hi hj, Option.bind_some]
        dsimp only
        have r1 := hR j i hj hi
        have r2 := hR i j hi hj
        by_cases e1 : isE (T.2 100) i j
        · rw [if_neg (c := (if isE (T.2 100) i j then (1 : Int32) else 0) = 0) (by rw [if_pos e1]; decide)]
          by_cases e2 : hs (kn j) i
          · rw [if_neg (c := (if hs (kn j) i then (1 : Int32) else 0) = 0) (by rw [if_pos e2]; decide)]
            exact gO_rd (r := 0) h0 hE rfl rfl
          · rw [if_pos (c := (if hs (kn j) i then (1 : Int32) else 0) = 0) (by rw [if_neg e2]), y_gRs b1 b2, Option.bind_some, y_av c1, Option.bind_some, isKind_eq c1 c2 k1 hi, Option.bind_some]
            dsimp only
            rw [if_neg (c := (if hs (kn i) j then (1 : Int32) else 0) = 0) (by rw [if_pos (r2.mpr e1)]; decide)]
            exact gO_rd (r := 0) h0 hE rfl rfl
        · rw [if_pos (c := (if isE (T.2 100) i j then (1 : Int32) else 0) = 0) (by rw [if_neg e1]), is_eq hj hi, Option.bind_some]
          dsimp only
          by_cases e2 : hs (kn j) i
          · rw [if_neg (c := (if hs (kn j) i then (1 : Int32) else 0) = 0) (by rw [if_pos e2]; decide), if_neg (c := (if isE (T.2 100) j i then (1 : Int32) else 0) = 0) (by rw [if_pos (r1.mp e2)]; decide)]
            exact gO_rd (r := 0) h0 hE rfl rfl
          · have e3 : ¬ isE (T.2 100) j i := fun z => e2 (r1.mpr z)
            rw [if_pos (c := (if hs (kn j) i then (1 : Int32) else 0) = 0) (by rw [if_neg e2]), if_pos (c := (if isE (T.2 100) j i then (1 : Int32) else 0) = 0) (by rw [if_neg e3]), y_gRs b1 b2, Option.bind_some, y_av c1, Option.bind_some, isKind_eq c1 c2 k1 hi, Option.bind_some]
            dsimp only
            rw [if_pos (c := (if hs (kn i) j then (1 : Int32) else 0) = 0) (by rw [if_neg (fun z => e1 (r2.mp z))]), y_gRs b1 b2, Option.bind_some, y_av c1, Option.bind_some, if_pos (c := tf T 11 ≤ 0) (by rw [show tf T 11 = nI (tN T 11) from e11.1, hz]; decide)]
            obtain ⟨y, q1, q2⟩ := addKind_L (a := i) hj lpK 6 0 x kn rfl (by decide) c1 c2 k1
            unfold jf_Ca_addKind
            rw [show jf_Ca_addKind_L2 lpK x (A 1) (nI i) (nI j) 0 = some (y, ()) from q1, Option.bind_some]
            have q3 := ext_47 hi hj e3 T lpK 6 0 rfl (by decide)
            rw [show tset T 100 (exF (T.2 100) i j (6 * 0)) = T from (congrArg (tset T 100) (by funext n; unfold exF; rw [if_neg (Nat.not_lt_zero n)])).trans (tset_s T 100)] at q3
            exact ⟨y, _, 1, rfl, q3, cFr_uI q2 (by decide), gI.mono (E := E) ⟨ab, L, O, v, sg, rp, hI_kn hh0 q2 (Rk_ext hR hi hj e3), pI_100 hp, qI_set hq (by decide)⟩ (by omega) hE, by rw [q2.1]; omega, by rw [q2.2.1]; exact (show q_sl x + 2000 * tN T 23 ≤ q_sl x + 10000 + 2000 * tN T 23 by omega)⟩
  · rw [if_pos (c := (if tN T 11 = 0 then (1 : Int32) else 0) = 0) (by rw [if_neg hz])]
    refine gO_rd (r := 0) h0 hE rfl ?_
    split
    · rfl
    · rename_i h1
      rw [in_eq, Option.bind_some, tin_blw (b := 6) (by decide)]
      dsimp only
      split
      · rfl
      · rename_i h2
        obtain ⟨i, hi, rfl⟩ := blw_n (n := 6) (by decide) h1
        obtain ⟨j, hj, rfl⟩ := blw_n (n := 6) (by decide) h2
        rw [is_eq hi hj, Option.bind_some]
        dsimp only
        generalize (if isE (T.2 100) i j then (1 : Int32) else 0) = w1
        by_cases e1 : w1 = 0
        · rw [if_pos e1, is_eq hj hi, Option.bind_some]
          dsimp only
          rw [if_neg (c := tf T 11 ≤ 0) (by rw [show tf T 11 = nI (tN T 11) from e11.1]; exact nI_nle (by omega) (by omega))]
          exact ite_self _
        · rw [if_neg e1]
end EX
