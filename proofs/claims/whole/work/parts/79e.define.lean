section DG
variable {x : q_S} {A : Nat → Nat} {T : tT} {E : Nat}
theorem t_def {n : Nat} (hn : T.1 2 = nI n) (h10 : n < 10) (a b c d : Int32) : ((tw T 10 10 (tf T 2) a).bind fun T13 => (tw T13 11 10 (tf T13 2) b).bind fun T16 => (tw T16 12 10 (tf T16 2) c).bind fun T19 => (tw T19 13 10 (tf T19 2) d).bind fun T22 => (tpi T22 2 ((tf T22 2) + 1)).bind fun T25 => some (T25, (tf T25 2) - 1)) = some (tDef T n a b c d, nI n) := by
  have e : tf T 2 = nI n := hn
  simp only [e, tw_n (t := 10) (i := n) (n := 10) (T := T) (by omega) (by decide), Option.bind_some, tset_f, tw_n (t := 11) (i := n) (n := 10) (by omega) (by decide), tw_n (t := 12) (i := n) (n := 10) (by omega) (by decide), tw_n (t := 13) (i := n) (n := 10) (by omega) (by decide), tpi]
  refine congrArg some (Prod.ext ?_ ?_)
  · show tp _ 2 (nI n + 1) = tp _ 2 (nI (n + 1))
    rw [nI_1]; rfl
  · show nI n + 1 - 1 = nI n
    rw [nI_1, nI_pred]
set_option maxHeartbeats 2000000 in
theorem g_define (h : gI x A T E) (hE : E + 100000 ≤ 1000000000) (a b c d : Int32) : gO' A x T E (jf_Bc_define x (A 0) a b c d) (jt_Mo_define T a b c d) := by
  have h0 := h
  obtain ⟨ab, L, O, v, sg, rp, hh, hp, hq⟩ := h
  have hh0 := hh
  obtain ⟨⟨kn, ⟨⟨b1, b2, b3, -⟩, ⟨c1, c2, c3⟩, -⟩, hR⟩, ⟨hJ, hw, l2, l7, -, -, -, ln, -⟩, -⟩ := hh
  obtain ⟨i2, -, hl⟩ := hJ.1 _ _ l2
  obtain ⟨i7, -, hl7⟩ := hJ.1 _ _ l7
  have e11 := hp.1.2.1
  have e2 := hp.1.1
  obtain ⟨n, hn⟩ : ∃ n, n = tN T 2 := ⟨_, rfl⟩
  have lE := L_isEmpty i2 hl
  rw [ls_len] at lE
  have lS := L_size i7
  rw [ls_len, ← hn] at lS
  rw [← hn] at e2
  unfold jf_Bc_define jt_Mo_define
  rw [y_gRs b1 b3, Option.bind_some, y_av i2.1, Option.bind_some, lE, Option.bind_some, in_eq, Option.bind_some, tin_blw (b := 6) (by decide)]
  dsimp only
  by_cases hz : tN T 11 = 0
  · rw [if_neg (c := (if tN T 11 = 0 then (1 : Int32) else 0) = 0) (by rw [if_pos hz]; decide), y_gRs b1 b2, Option.bind_some, y_av c1, Option.bind_some]
    unfold jf_Ca_size
    rw [y_gRs c1 c3, Option.bind_some, y_av i7.1, Option.bind_some, lS, Option.bind_some, Option.bind_some]
    dsimp only
    by_cases h10 : n = 10
    · rw [if_neg (c := nI n < 10) (by rw [h10]; decide)]
      refine gO_rd (r := -1) h0 hE rfl ?_
      split
      · rfl
      · rw [in_eq, Option.bind_some]; dsimp only; split
        · rfl
        · rw [in_eq, Option.bind_some]; dsimp only; split
          · rfl
          · rw [in_eq, Option.bind_some]; dsimp only; split
            · rfl
            · rw [if_pos (c := tf T 2 = 10) (by rw [show tf T 2 = nI n from e2.1, h10]; decide)]
    · have hn10 : n < 10 := by omega
      rw [if_pos (c := nI n < 10) (nI_lt (a := n) (b := 10) hn10 (by decide)), isType_eq, Option.bind_some]
      dsimp only
      by_cases h1 : blw a 6 = 0
      · rw [if_pos h1, if_pos h1]; exact gO_rd (r := -1) h0 hE rfl rfl
      · rw [if_neg h1, if_neg h1, isBelow_eq, Option.bind_some, in_eq, Option.bind_some, tin_blw (b := 16) (by decide)]
        dsimp only
        by_cases h2 : blw b 16 = 0
        · rw [if_pos h2, if_pos h2]; exact gO_rd (r := -1) h0 hE rfl rfl
        · rw [if_neg h2, if_neg h2, isQualifier_eq, Option.bind_some, in_eq, Option.bind_some, tin_blw (b := 4) (by decide)]
          dsimp only
          by_cases h3 : blw c 4 = 0
          · rw [if_pos h3, if_pos h3]; exact gO_rd (r := -1) h0 hE rfl rfl
          · rw [if_neg h3, if_neg h3, isProfile_eq, Option.bind_some, in_eq, Option.bind_some, tin_blw (b := 4) (by decide)]
            dsimp only
            by_cases h4 : blw d 4 = 0
            · rw [if_pos h4, if_pos h4]; exact gO_rd (r := -1) h0 hE rfl rfl
            · rw [if_neg h4, if_neg h4, if_neg (c := tf T 2 = 10) (by rw [show tf T 2 = nI n from e2.1]; exact fun z => h10 ((nI_eq (b := 10) (by omega) (by decide)).mp z)), if_pos (c := tf T 11 ≤ 0) (by rw [show tf T 11 = nI (tN T 11) from e11.1, hz]; decide), y_gRs b1 b2, Option.bind_some, t_def e2.1 hn10]
              have P' := pI_def hp hn hn10 hz (blw_n (n := 6) (by decide) h1) (blw_n (n := 16) (by decide) h2) (blw_n (n := 4) (by decide) h3) (blw_n (n := 4) (by decide) h4)
              have Q' : qI (tDef T n a b c d) v := hq
              have hz14 : T.2 14 n = 0 := hp.2.1.2 n (by omega)
              generalize hT' : tDef T n a b c d = T' at P' Q'
              refine st_nO (G := fun o => gO' A x T E o (some (T', nI n))) (fun x1 u => ?_)
              have w1 := wf_uN hw u
              have J1 := jL_uN hJ u (by decide)
              have a6 : q_al x1 6 (q_sz x) = true := by rw [u.2.2.2.2.2.1, if_pos ⟨rfl, rfl⟩]
              simp only [jf_De_init, Option.bind_assoc, Option.bind_some]
              refine st_newL (G := fun o => gO' A x T E o (some (T', nI n))) J1 w1 (fun x2 J2 w => ?_)
              obtain ⟨e, he⟩ : ∃ e, e = q_sz x := ⟨_, rfl⟩
              rw [← he] at a6 ⊢
              have w2 := w.2.2.2.2.2.2.2.2
              have a62 : q_al x2 6 e = true := nL_al w a6
              refine st_pR (G := fun o => gO' A x T E o (some (T', nI n))) a62 (fun x3 v3 => ?_)
              have a63 : q_al x3 6 e = true := by rw [v3.2.2.1]; exact a62
              refine st_pI (G := fun o => gO' A x T E o (some (T', nI n))) a63 (fun x4 v4 => ?_)
              have a64 : q_al x4 6 e = true := by rw [v4.2.2.1]; exact a63
              refine st_pI (G := fun o => gO' A x T E o (some (T', nI n))) a64 (fun x5 v5 => ?_)
              have a65 : q_al x5 6 e = true := by rw [v5.2.2.1]; exact a64
              refine st_pI (G := fun o => gO' A x T E o (some (T', nI n))) a65 (fun x6 v6 => ?_)
              have a66 : q_al x6 6 e = true := by rw [v6.2.2.1]; exact a65
              refine st_pI (G := fun o => gO' A x T E o (some (T', nI n))) a66 (fun x7 v7 => ?_)
              have a67 : q_al x7 6 e = true := by rw [v7.2.2.1]; exact a66
              have J7 := jL_uF (jL_uF (jL_uF (jL_uF (jL_uF J2 v3 (by decide)) v4 (by decide)) v5 (by decide)) v6 (by decide)) v7 (by decide)
              have w7 := wf_uF (wf_uF (wf_uF (wf_uF (wf_uF w2 v3) v4) v5) v6) v7
              have f7 := (((((cFr_uN u (by decide)).tr (cFr_nL w)).tr (cFr_uF v3 (by decide))).tr (cFr_uF v4 (by decide))).tr (cFr_uF v5 (by decide))).tr ((cFr_uF v6 (by decide)).tr (cFr_uF v7 (by decide)))
              have U7 : ∀ c a, c ≠ 2 → ¬ (c = 6 ∧ a = e) → un x x7 c a := fun c a hc hn => by
                refine (un_uN u (fun z => hn ⟨z.1, z.2.trans he.symm⟩)).tr ((un_nL w hc).tr ((un_uF v3 hn).tr ((un_uF v4 hn).tr ((un_uF v5 hn).tr ((un_uF v6 hn).tr (un_uF v7 hn))))))
              have s1 : q_sz x1 = e + 1 := by rw [u.1, he]
              have s7 : q_sz x7 = q_sz x + 2 := by rw [v7.1, v6.1, v5.1, v4.1, v3.1, w.1, u.1]
              have m7 : q_sl x7 ≤ q_sl x + 8 := by
                rw [v7.2.1, v6.2.1, v5.2.1, v4.2.1, v3.2.1]
                have := w.2.2.1
                rw [u.2.1] at this
                exact this
              have k1 : q_al x7 1 (A 1) = true := (U7 1 (A 1) (by decide) (fun z => by cases z.1)).1 c1
              have c37 : q_fd x7 1 1 (A 1) = .ref (A 7) := by rw [(U7 1 (A 1) (by decide) (fun z => by cases z.1)).2]; exact c3
              refine st_av (G := fun o => gO' A x T E o (some (T', nI n))) k1 ?_
              unfold jf_Ca_add
              have old : ∀ q xs, L q = some xs → q ≠ q_sz x1 := fun q xs hq z => by have := jL_lt hJ hw hq; omega
              have L7 : (fun b => if b = q_sz x1 then some [] else L b) (A 7) = some (ls n (ab 6)) := by dsimp only; rw [if_neg (old _ _ l7), hn]; exact l7
              have j7 := (J7.1 _ _ L7).1
              obtain ⟨y, g1, g2, g3⟩ := L_add J7 L7 w7 (q_ok_c a67 (by decide)) (by rw [ls_len]; omega)
              have gl := (g2.1 (A 7) (ls n (ab 6) ++ [e]) (if_pos rfl)).1
              have y1 : q_al y 1 (A 1) = true := by rw [g3.1]; exact k1
              have y3 : q_fd y 1 1 (A 1) = .ref (A 7) := by rw [g3.2.2.2.1 1 (by decide)]; exact c37
              rw [y_gRs k1 c37, Option.bind_some, y_av j7.1, Option.bind_some, g1, Option.bind_some]
              dsimp only
              rw [y_gRs y1 y3, Option.bind_some, y_av gl.1, Option.bind_some, L_size gl, Option.bind_some, Option.bind_some, List.length_append, ls_len]
              dsimp only
              have h5 := g3.2.2.2.2.2.1
              have h6 := g3.2.2.2.2.2.2.2.1
              have fe : ∀ j, q_fd y 6 j e = q_fd x7 6 j e := fun j => by rw [g3.2.2.2.1 6 (by decide)]
              have oe : oD y e a b c d (q_sz x1) := by
                refine ⟨by rw [g3.1]; exact a67, ?_, ?_, ?_, ?_, ?_⟩
                · rw [fe, v7.2.2.2.2.2.2, if_neg (fun z => by cases z.2.1), v6.2.2.2.2.2.2, if_neg (fun z => by cases z.2.1), v5.2.2.2.2.2.2, if_neg (fun z => by cases z.2.1), v4.2.2.2.2.2.2, if_pos ⟨rfl, rfl, rfl⟩]
                · rw [fe, v7.2.2.2.2.2.2, if_neg (fun z => by cases z.2.1), v6.2.2.2.2.2.2, if_neg (fun z => by cases z.2.1), v5.2.2.2.2.2.2, if_pos ⟨rfl, rfl, rfl⟩]
                · rw [fe, v7.2.2.2.2.2.2, if_neg (fun z => by cases z.2.1), v6.2.2.2.2.2.2, if_pos ⟨rfl, rfl, rfl⟩]
                · rw [fe, v7.2.2.2.2.2.2, if_pos ⟨rfl, rfl, rfl⟩]
                · rw [fe, v7.2.2.2.2.2.2, if_neg (fun z => by cases z.2.1), v6.2.2.2.2.2.2, if_neg (fun z => by cases z.2.1), v5.2.2.2.2.2.2, if_neg (fun z => by cases z.2.1), v4.2.2.2.2.2.2, if_neg (fun z => by cases z.2.1), v3.2.2.2.2.2.2, if_pos ⟨rfl, rfl, rfl⟩]; rfl
              have ai : q_ai y = q_ai x := by rw [g3.2.1, v7.2.2.2.1, v6.2.2.2.1, v5.2.2.2.1, v4.2.2.2.1, v3.2.2.2.1, w.2.2.2.2.1, u.2.2.1]
              have n7 : q_sz x1 ≠ A 7 := fun z => old _ _ l7 z.symm
              have H' : hI y A (adb (adb ab 6 n e) 2 n (q_sz x1)) (fun b => if b = A 7 then some (ls n (ab 6) ++ [e]) else (fun b => if b = q_sz x1 then some [] else L b) b) O v sg rp (tDef T n a b c d) :=
                hI_def hh0 hn hn10 hz14 (by omega) (by omega) g2 g3.2.2.2.2.2.2.2.2 (if_pos rfl) (by dsimp only; rw [if_neg n7, if_pos rfl]) (fun q xs hq hne => by dsimp only; rw [if_neg hne, if_neg (old q xs hq)]; exact hq) (fun c a hc hn => (U7 c a hc hn).tr (un_oL g3 hc)) ai oe
              rw [hT'] at H'
              exact ⟨y, T', nI n, congrArg some (Prod.ext rfl (nI_pred n)), rfl, f7.tr (cFr_oL g3), gI.mono (E := E) ⟨_, _, O, v, sg, rp, H', P', Q'⟩ (by omega) hE, by omega, by rw [← hT']; exact (show q_sl y + 2000 * tN T 23 ≤ q_sl x + 10000 + 2000 * tN T 23 by omega)⟩
  · rw [if_pos (c := (if tN T 11 = 0 then (1 : Int32) else 0) = 0) (by rw [if_neg hz])]
    refine gO_rd (r := -1) h0 hE rfl ?_
    split
    · rfl
    · rw [in_eq, Option.bind_some]; dsimp only; split
      · rfl
      · rw [in_eq, Option.bind_some]; dsimp only; split
        · rfl
        · rw [in_eq, Option.bind_some]; dsimp only; split
          · rfl
          · rw [if_neg (c := tf T 11 ≤ 0) (by rw [show tf T 11 = nI (tN T 11) from e11.1]; exact nI_nle (by omega) (by omega))]
            exact ite_self _
end DG
