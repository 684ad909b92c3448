section KP
variable {x y : q_S} {A : Nat → Nat} {T : tT} {E : Nat} {ab : Nat → Nat → Nat} {L L' : Nat → Option (List Nat)} {O : List Nat} {v sg : Nat → Nat → Int32} {rp : Nat → Nat}
/-- a Bean's constructor -/
theorem bi_eq {a h w : Nat} {d mk : Int32} (hal : q_al x 10 a = true) (hmk : mk = 0 ∨ mk = 1) (J : jL x L) (W : wf x) : ∃ y, jf_Be_init x a d (some h) mk (some w) = some (y, ()) ∧ q_al y = q_al x ∧ q_ai y = q_ai x ∧ q_sz y = q_sz x ∧ q_sl y = q_sl x ∧ jL y L ∧ wf y ∧ cFr x y ∧ (∀ c b, ¬ (c = 10 ∧ b = a) → un x y c b) ∧ q_fd y 10 0 a = .int d ∧ q_fd y 10 1 a = .ref h ∧ q_fd y 10 2 a = .int mk ∧ q_fd y 10 3 a = .ref w ∧ ∀ j, 4 ≤ j → q_fd y 10 j a = q_fd x 10 j a := by
  unfold jf_Be_init
  rw [y_pI hal, Option.bind_some]
  have u1 := uF_of x 10 0 a (.int d)
  generalize q_putF x 10 0 a (.int d) = x1 at u1 ⊢
  have a1 : q_al x1 10 a = true := by rw [u1.2.2.1]; exact hal
  rw [y_pR a1, Option.bind_some]
  have u2 := uF_of x1 10 1 a (va_rf (some h))
  generalize q_putF x1 10 1 a (va_rf (some h)) = x2 at u2 ⊢
  have a2 : q_al x2 10 a = true := by rw [u2.2.2.1]; exact a1
  rw [y_pZ a2 hmk, Option.bind_some]
  have u3 := uF_of x2 10 2 a (.int mk)
  generalize q_putF x2 10 2 a (.int mk) = x3 at u3 ⊢
  have a3 : q_al x3 10 a = true := by rw [u3.2.2.1]; exact a2
  rw [y_pR a3, Option.bind_some]
  have u4 := uF_of x3 10 3 a (va_rf (some w))
  generalize q_putF x3 10 3 a (va_rf (some w)) = x4 at u4 ⊢
  have ne : ∀ (i j : Nat), i ≠ j → ¬ ((10 : Nat) = 10 ∧ i = j ∧ a = a) := fun i j h z => h z.2.1
  refine ⟨x4, rfl, by rw [u4.2.2.1, u3.2.2.1, u2.2.2.1, u1.2.2.1], by rw [u4.2.2.2.1, u3.2.2.2.1, u2.2.2.2.1, u1.2.2.2.1], by rw [u4.1, u3.1, u2.1, u1.1], by rw [u4.2.1, u3.2.1, u2.2.1, u1.2.1], jL_uF (jL_uF (jL_uF (jL_uF J u1 (by decide)) u2 (by decide)) u3 (by decide)) u4 (by decide), wf_uF (wf_uF (wf_uF (wf_uF W u1) u2) u3) u4, ((cFr_uF u1 (by decide)).tr (cFr_uF u2 (by decide))).tr ((cFr_uF u3 (by decide)).tr (cFr_uF u4 (by decide))), fun c b hn => ((un_uF u1 hn).tr (un_uF u2 hn)).tr ((un_uF u3 hn).tr (un_uF u4 hn)), ?_, ?_, ?_, ?_, fun j hj => ?_⟩
  · rw [u4.2.2.2.2.2.2, if_neg (ne _ _ (by decide)), u3.2.2.2.2.2.2, if_neg (ne _ _ (by decide)), u2.2.2.2.2.2.2, if_neg (ne _ _ (by decide)), u1.2.2.2.2.2.2, if_pos ⟨rfl, rfl, rfl⟩]
  · rw [u4.2.2.2.2.2.2, if_neg (ne _ _ (by decide)), u3.2.2.2.2.2.2, if_neg (ne _ _ (by decide)), u2.2.2.2.2.2.2, if_pos ⟨rfl, rfl, rfl⟩]; rfl
  · rw [u4.2.2.2.2.2.2, if_neg (ne _ _ (by decide)), u3.2.2.2.2.2.2, if_pos ⟨rfl, rfl, rfl⟩]
  · rw [u4.2.2.2.2.2.2, if_pos ⟨rfl, rfl, rfl⟩]; rfl
  · rw [u4.2.2.2.2.2.2, if_neg (ne _ _ (by omega)), u3.2.2.2.2.2.2, if_neg (ne _ _ (by omega)), u2.2.2.2.2.2.2, if_neg (ne _ _ (by omega)), u1.2.2.2.2.2.2, if_neg (ne _ _ (by omega))]
set_option maxHeartbeats 2000000 in
theorem hI_bn {b c d a wa : Nat} {mk : Int32} {w : Nat → Int32} (hh : hI x A ab L O v sg rp T) (hb : b = tN T 23) (hb2 : b < 200) (hc : c < 30) (hd : d < 10) (ho : oB x a (nI d) (ab 9 c) mk wa 0 0 0) (hwa : ∃ f, q_ai x 4 wa = some (if mk = 0 then tV T 14 d else 0, f) ∧ ∀ k, k < (if mk = 0 then tV T 14 d else 0) → f k = w k) (h3 : tV T 14 d ≤ 3) (hfr : ∀ b', b' < b → ab 10 b' ≠ a) (hw3 : ∀ b', b' < b → wl T b' ≤ 3) (hz : T.2 28 b = 0 ∧ T.2 29 b = 0 ∧ T.2 30 b = 0) (hJ' : jL y L') (u : oL x y) (h9 : L' (A 9) = some (ls b (ab 10) ++ [a])) (hne : ∀ q, q ≠ A 9 → L' q = L q) : hI y A (adb (adb ab 10 b a) 13 b wa) L' O v sg rp (tBn T b (nI c) (nI d) mk w) := by
  obtain ⟨⟨kn, hS, hR⟩, ⟨hJ, hw, l2, l7, l9, l10, l11, ln, li⟩, hDD, hKK, hCC, hBB⟩ := hh
  have e23 : tN (tBn T b (nI c) (nI d) mk w) 23 = b + 1 := nI_clamp (by omega)
  have U : ∀ c a, c ≠ 2 → un x y c a := fun c a hc => un_oL u hc
  have ai : q_ai y = q_ai x := u.2.1
  have R := hI_rest hDD hKK hCC hBB (y := y) (fun c a h6 _ => U c a (by omega)) (fun t a _ => by rw [ai])
  have ne : ∀ i, i < 5 + tN T 2 → i ≠ 2 → la A ab i ≠ A 9 := fun i hi h4 z => h4 (li i 2 hi (by omega) z)
  have i10' : ∀ b', b' ≠ b → adb (adb ab 10 b a) 13 b wa 10 b' = ab 10 b' := fun b' h => by rw [adb_n (fun z => by cases z.1), adb_n (fun z => h z.2)]
  have i13' : ∀ b', b' ≠ b → adb (adb ab 10 b a) 13 b wa 13 b' = ab 13 b' := fun b' h => by rw [adb_n (fun z => h z.2), adb_n (fun z => by cases z.1)]
  have b10 : adb (adb ab 10 b a) 13 b wa 10 b = a := by rw [adb_n (fun z => by cases z.1), adb_s]
  have b13 : adb (adb ab 10 b a) 13 b wa 13 b = wa := adb_s
  have s9 : ls (b + 1) (adb (adb ab 10 b a) 13 b wa 10) = ls b (ab 10) ++ [a] := by
    rw [ls_s, b10]
    congr 1
    exact ls_c (fun i hi => i10' i (by omega))
  refine ⟨⟨kn, hS.fu (U _ _ (by decide)) (U _ _ (by decide)) (U _ _ (by decide)) (U _ _ (by decide)) (U _ _ (by decide)) (by rw [ai]) (by rw [ai]), hR⟩, ⟨hJ', u.2.2.2.2.2.2.2.2, (hne _ (ne 0 (by omega) (by decide))).trans l2, (hne _ (ne 1 (by omega) (by decide))).trans l7, by rw [e23, s9]; exact h9, (hne _ (ne 3 (by omega) (by decide))).trans l10, (hne _ (ne 4 (by omega) (by decide))).trans l11, fun i hi => (hne _ ?_).trans (ln i hi), li⟩, R.1, R.2.1, R.2.2.1, ⟨fun b' hb' => ?_, fun b1 b2 h1 h2 h => ?_⟩⟩
  · have := ne (5 + i) (by have : i < tN T 2 := hi; omega) (by omega)
    rw [la_5] at this
    exact this
  · rw [e23] at hb'
    by_cases e : b' = b
    · subst e
      rw [b10, b13]
      have w1 : wl (tBn T b' (nI c) (nI d) mk w) b' = if mk = 0 then tV T 14 d else 0 := by
        show (if upd (T.2 102) b' mk b' = 0 then tV T 14 (upd (T.2 26) b' (nI d) b').toNatClampNeg else 0) = _
        rw [upd_s, upd_s, nI_clamp (by omega)]
      refine ⟨?_, ?_⟩
      · show oB y a (upd (T.2 26) b' (nI d) b') (ab 9 (upd (T.2 25) b' (nI c) b').toNatClampNeg) (upd (T.2 102) b' mk b') wa (T.2 28 b') (T.2 29 b') (T.2 30 b')
        rw [upd_s, upd_s, upd_s, nI_clamp (by omega), hz.1, hz.2.1, hz.2.2]
        exact ho.fr (U 10 _ (by decide))
      · obtain ⟨f, f1, f2⟩ := hwa
        rw [w1, ai]
        refine ⟨f, f1, fun k hk => ?_⟩
        have hk3 : k < 3 := by
          by_cases hm : mk = 0
          · rw [if_pos hm] at hk; omega
          · rw [if_neg hm] at hk; omega
        rw [f2 k hk]
        show w k = upd (upd (upd (T.2 27) (3 * b' + 0) (w 0)) (3 * b' + 1) (w 1)) (3 * b' + 2) (w 2) (3 * b' + k)
        rw [upd3 hk3, if_pos rfl]
    · obtain ⟨o, f, f1, f2⟩ := R.2.2.2.1 b' (by omega)
      have w1 : wl (tBn T b (nI c) (nI d) mk w) b' = wl T b' := by
        show (if upd (T.2 102) b mk b' = 0 then tV T 14 (upd (T.2 26) b (nI d) b').toNatClampNeg else 0) = _
        rw [upd_n e, upd_n e]; rfl
      rw [i10' b' e, i13' b' e, w1]
      refine ⟨?_, f, f1, fun k hk => ?_⟩
      · show oB y (ab 10 b') (upd (T.2 26) b (nI d) b') (ab 9 (upd (T.2 25) b (nI c) b').toNatClampNeg) (upd (T.2 102) b mk b') (ab 13 b') (T.2 28 b') (T.2 29 b') (T.2 30 b')
        rw [upd_n e, upd_n e, upd_n e]
        exact o
      · rw [f2 k hk]
        show T.2 27 (3 * b' + k) = upd (upd (upd (T.2 27) (3 * b + 0) (w 0)) (3 * b + 1) (w 1)) (3 * b + 2) (w 2) (3 * b' + k)
        have hk3 : k < 3 := by have := hw3 b' (by omega); omega
        rw [upd3 hk3, if_neg e]
  · rw [e23] at h1 h2
    by_cases e1 : b1 = b
    · by_cases e2 : b2 = b
      · rw [e1, e2]
      · rw [e1, b10, i10' b2 e2] at h
        exact absurd h.symm (hfr b2 (by omega))
    · by_cases e2 : b2 = b
      · rw [e2, b10, i10' b1 e1] at h
        exact absurd h (hfr b1 (by omega))
      · rw [i10' b1 e1, i10' b2 e2] at h
        exact hBB.2 b1 b2 (by omega) (by omega) h
theorem hI_sg {c d : Nat} {w : Int32} (hh : hI x A ab L O v sg rp T) (hc : c < tN T 16) (u : uI x y 2 (ab 12 c) 10 (upd (sg c) d w)) : hI y A ab L O v (upv sg c d w) rp T := by
  obtain ⟨⟨kn, hS, hR⟩, ⟨hJ, hw, l2, l7, l9, l10, l11, ln, li⟩, hDD, hKK, hCC, hBB⟩ := hh
  have U : ∀ c a, un x y c a := fun c a => un_uI u
  have ai : ∀ t a, ¬ (t = 2 ∧ a = ab 12 c) → q_ai y t a = q_ai x t a := fun t a h => by rw [u.2.2.2.2.2.2, if_neg h]
  have nn : q_ai x 2 (ab 12 c) ≠ none := by rw [(hCC.1 c hc).2]; exact fun h => nomatch h
  refine ⟨⟨kn, hS.fu (U _ _) (U _ _) (U _ _) (U _ _) (U _ _) (ai _ _ (fun z => by cases z.1)) (ai _ _ (fun z => by cases z.1)), hR⟩, ⟨jL_uI hJ u, wf_uI hw u nn, l2, l7, l9, l10, l11, ln, li⟩, fun i hi => ⟨(hDD i hi).1.fr (U 6 _), fun k hk => ((hDD i hi).2 k hk).fr (U 7 _)⟩, ⟨fun j hj => (hKK.1 j hj).fr (U 8 _), hKK.2⟩, ⟨fun c' hc' => ⟨(hCC.1 c' hc').1.fr (U 9 _), ?_⟩, hCC.2⟩, ⟨fun b hb => ⟨(hBB.1 b hb).1.fr (U 10 _), by rw [ai 4 _ (fun z => by cases z.1)]; exact (hBB.1 b hb).2⟩, hBB.2⟩⟩
  by_cases e : c' = c
  · subst e
    rw [u.2.2.2.2.2.2, if_pos ⟨rfl, rfl⟩]
    refine congrArg some (Prod.ext rfl ?_)
    funext d'
    show upd (sg c') d w d' = upv sg c' d w c' d'
    by_cases e : d' = d
    · subst e; rw [upd_s, upv_s]
    · rw [upd_n e, upv_n (fun z => e z.2)]
  · rw [ai _ _ (fun z => e ((hCC.2 c' c hc' hc).2 z.2)), (hCC.1 c' hc').2]
    refine congrArg some (Prod.ext rfl ?_)
    funext d'
    exact (upv_n (fun z => e z.1)).symm
set_option maxHeartbeats 2000000 in
theorem keep_eq {c d a wa : Nat} {mk : Int32} {w : Nat → Int32} (hh : hI x A ab L O v sg rp T) (hp : pI T E O v sg rp) (hE : E + 1 ≤ 1000000000) (hc : c < tN T 16) (hd : d < tN T 2) (ho : oB x a (nI d) (ab 9 c) mk wa 0 0 0) (hwa : ∃ f, q_ai x 4 wa = some (if mk = 0 then tV T 14 d else 0, f) ∧ ∀ k, k < (if mk = 0 then tV T 14 d else 0) → f k = w k) (hfr : ∀ b', b' < tN T 23 → ab 10 b' ≠ a) (hb2 : tN T 23 < 200) : ∃ y L' sg', jf_Wo_keep x (A 4) (some a) = some (y, nI (tN T 23)) ∧ hI y A (adb (adb ab 10 (tN T 23) a) 13 (tN T 23) wa) L' O v sg' rp (tNote (tBn T (tN T 23) (nI c) (nI d) mk w) ((64 : Int32) * 1 + nI d)) ∧ ((hs (v 2 (tV T 22 c)) d ∧ sg' = upv sg c d (nI (tN T 23))) ∨ (¬ hs (v 2 (tV T 22 c)) d ∧ sg' = sg)) ∧ cFr x y ∧ q_sz y ≤ q_sz x + 1 ∧ q_sl y ≤ q_sl x + 1510 ∧ q_ai y 4 = q_ai x 4 := by
  have hh0 := hh
  have h10 := hp.1.1.2
  have h30 := hp.1.2.2.1.2
  have ky := (hp.2.2.2.2.1.1 c hc).1.2.1
  have h14 := (hp.2.1.1 d hd).2.2.2.2.1.2
  have hz := hp.2.2.2.2.2.1.2.1 (tN T 23) (Nat.le_refl _)
  have hw3 : ∀ b', b' < tN T 23 → wl T b' ≤ 3 := fun b' hb' => wl_3 hp hb'
  have e38 := hp.1.2.2.2.2.2.2.1
  obtain ⟨⟨kn, ⟨-, -, ⟨j1, -⟩, ⟨w1, w2, w3, w4⟩, -⟩, hR⟩, ⟨hJ, hw, l2, l7, l9, -⟩, -, hKK, hCC, -⟩ := hh
  obtain ⟨i9, -, hl⟩ := hJ.1 _ _ l9
  have lS := L_size i9
  rw [ls_len] at lS
  obtain ⟨y1, q1, q2, q3⟩ := L_add hJ l9 hw (q_ok_c ho.1 (by decide)) (by rw [ls_len]; omega)
  have H1 := hI_bn (w := w) hh0 rfl hb2 (by omega) (by omega) ho hwa h14 hfr hw3 ⟨hz.1, hz.2.1, hz.2.2.1⟩ q2 q3 (if_pos rfl) (fun q hq => if_neg hq)
  have U1 : ∀ c a, c ≠ 2 → un x y1 c a := fun c a hc => un_oL q3 hc
  have W1 := U1 4 (A 4) (by decide)
  have w1' := W1.1 w1
  have w3' : q_fd y1 4 1 (A 4) = .ref (A 3) := by rw [W1.2]; exact w3
  have j1' := (U1 3 (A 3) (by decide)).1 j1
  obtain ⟨p1, p2, p3, p4, p5, p6, p7, p8⟩ := ho.fr (U1 10 a (by decide))
  obtain ⟨⟨g1, g2, g3, g4, g5, -⟩, g9⟩ := hCC.1 c hc
  have G1 := U1 9 (ab 9 c) (by decide)
  have g1' := G1.1 g1
  have g3' : q_fd y1 9 1 (ab 9 c) = .ref (ab 8 (tV T 22 c)) := by rw [G1.2]; exact g3
  have g5' : q_fd y1 9 3 (ab 9 c) = .ref (ab 12 c) := by rw [G1.2]; exact g5
  have g9' : q_ai y1 2 (ab 12 c) = some (10, sg c) := by rw [q3.2.1]; exact g9
  obtain ⟨k1, k2, k3, k4, k5, -⟩ := (hKK.1 _ ky).fr (U1 8 (ab 8 (tV T 22 c)) (by decide))
  unfold jf_Wo_keep
  rw [y_gRs w1 w4, Option.bind_some, y_av i9.1, Option.bind_some, lS, Option.bind_some]
  dsimp only
  rw [if_pos (show nI (tN T 23) < 200 from nI_lt (b := 200) hb2 (by decide)), y_gRs w1 w4, Option.bind_some, y_av i9.1, Option.bind_some, lS, Option.bind_some]
  dsimp only
  rw [y_gRs w1 w4, Option.bind_some, y_av i9.1, Option.bind_some, q1, Option.bind_some]
  dsimp only
  rw [y_gRs p1 p3, Option.bind_some, y_gRs g1' g3', Option.bind_some, y_gI k1 k5, Option.bind_some, y_gI p1 p2, Option.bind_some]
  have sz1 := q3.2.2.2.2.2.1
  have sl1 := q3.2.2.2.2.2.2.2.1
  rcases cont_eq y1 (v 2 (tV T 22 c)) d with ⟨c1, c2⟩ | ⟨c1, c2⟩
  · rw [c2, Option.bind_some]
    dsimp only
    rw [if_neg i10, y_gRs p1 p3, Option.bind_some, y_gRs g1' g5', Option.bind_some, y_gI p1 p2, Option.bind_some, y_sI g9' (show d < 10 by omega) (by decide), Option.bind_some]
    have u := uI_of y1 2 (ab 12 c) 10 (upd (sg c) d (nI (tN T 23)))
    generalize q_putI y1 2 (ab 12 c) 10 (upd (sg c) d (nI (tN T 23))) = y2 at u ⊢
    have H2 := hI_sg (T := tBn T (tN T 23) (nI c) (nI d) mk w) (c := c) (d := d) (w := nI (tN T 23)) H1 hc u
    obtain ⟨y, f1, f2, f3, f4, f5, f6, -⟩ := write_eq H2 (show T.1 38 = nI (tN T 38) from e38.1) (show tN T 38 < 2 ^ 31 by omega) 1 (nI d)
    have V := un_uI (a := A 4) (d := 4) u
    have a4 := V.1 w1'
    have b4 : q_fd y2 4 1 (A 4) = .ref (A 3) := by rw [V.2]; exact w3'
    have V2 := un_uI (a := a) (d := 10) u
    have a10 := V2.1 p1
    have b10 : q_fd y2 10 0 a = .int (nI d) := by rw [V2.2]; exact p2
    have a3 := (un_uI (a := A 3) (d := 3) u).1 j1'
    rw [y_gRs a4 b4, Option.bind_some, y_gI a10 b10, Option.bind_some, y_av a3, Option.bind_some, f1, Option.bind_some]
    refine ⟨y, _, _, rfl, f2, Or.inl ⟨c1, rfl⟩, ((cFr_oL q3).tr (cFr_uI u (by decide))).tr f3, by rw [f4, u.1]; exact sz1, by rw [f5, u.2.1]; exact sl1, ?_⟩
    rw [f6]
    funext b
    rw [u.2.2.2.2.2.2, if_neg (fun z => by cases z.1), q3.2.1]
  · rw [c2, Option.bind_some]
    dsimp only
    obtain ⟨y, f1, f2, f3, f4, f5, f6, -⟩ := write_eq H1 (show T.1 38 = nI (tN T 38) from e38.1) (show tN T 38 < 2 ^ 31 by omega) 1 (nI d)
    rw [if_pos i00, y_gRs w1' w3', Option.bind_some, y_gI p1 p2, Option.bind_some, y_av j1', Option.bind_some, f1, Option.bind_some]
    exact ⟨y, _, _, rfl, f2, Or.inr ⟨c1, rfl⟩, (cFr_oL q3).tr f3, by rw [f4]; exact sz1, by rw [f5]; exact sl1, by rw [f6, q3.2.1]⟩
theorem keep_full {a : Nat} (hh : hI x A ab L O v sg rp T) (h : tN T 23 = 200) : jf_Wo_keep x (A 4) (some a) = some (x, -7) := by
  obtain ⟨⟨kn, ⟨-, -, -, ⟨w1, w2, w3, w4⟩, -⟩, hR⟩, ⟨hJ, hw, l2, l7, l9, -⟩, -⟩ := hh
  have i9 := (hJ.1 _ _ l9).1
  have lS := L_size i9
  rw [ls_len, h] at lS
  unfold jf_Wo_keep
  rw [y_gRs w1 w4, Option.bind_some, y_av i9.1, Option.bind_some, lS, Option.bind_some]
  exact if_neg (show ¬ nI 200 < 200 by decide)
end KP
