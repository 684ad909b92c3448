/-! Beans are written. -/
theorem upd_s {f : Nat → Int32} {i : Nat} {v : Int32} : upd f i v i = v := by unfold upd; rw [if_pos rfl]
theorem upd_n {f : Nat → Int32} {i j : Nat} {v : Int32} (h : j ≠ i) : upd f i v j = f j := by unfold upd; rw [if_neg h]
section BW
variable {x y : q_S} {A : Nat → Nat} {T : tT} {E : Nat} {ab : Nat → Nat → Nat} {L : Nat → Option (List Nat)} {O : List Nat} {v sg : Nat → Nat → Int32} {rp : Nat → Nat}
set_option maxHeartbeats 1000000 in
theorem hI_28 {b : Nat} {w : Int32} (hh : hI x A ab L O v sg rp T) (hb : b < tN T 23) (u : uF x y 10 4 (ab 10 b) (.int w)) : hI y A ab L O v sg rp (tset T 28 (upd (T.2 28) b w)) := by
  obtain ⟨⟨kn, hS, hR⟩, ⟨hJ, hw, l2, l7, l9, l10, l11, ln, li⟩, hDD, hKK, hCC, hBB⟩ := hh
  have U : ∀ c a, c ≠ 10 → un x y c a := fun c a hc => un_uF u (fun z => hc z.1)
  refine ⟨⟨kn, hS.fu (U _ _ (by decide)) (U _ _ (by decide)) (U _ _ (by decide)) (U _ _ (by decide)) (U _ _ (by decide)) (by rw [u.2.2.2.1]) (by rw [u.2.2.2.1]), hR⟩, ⟨jL_uF hJ u (by decide), wf_uF hw u, l2, l7, l9, l10, l11, ln, li⟩, fun i hi => ⟨(hDD i hi).1.fr (U 6 _ (by decide)), fun k hk => ((hDD i hi).2 k hk).fr (U 7 _ (by decide))⟩, ⟨fun j hj => (hKK.1 j hj).fr (U 8 _ (by decide)), hKK.2⟩, ⟨fun c hc => ⟨(hCC.1 c hc).1.fr (U 9 _ (by decide)), by rw [u.2.2.2.1]; exact (hCC.1 c hc).2⟩, hCC.2⟩, ⟨fun b' hb' => ?_, hBB.2⟩⟩
  obtain ⟨o, wv, ow, ov⟩ := hBB.1 b' hb'
  refine ⟨?_, wv, by rw [u.2.2.2.1]; exact ow, ov⟩
  by_cases hc : b' = b
  · subst hc
    obtain ⟨o1, o2, o3, o4, o5, o6, o7, o8⟩ := o
    have al : q_al y 10 (ab 10 b') = true := by rw [u.2.2.1]; exact o1
    have fd : ∀ j, j ≠ 4 → q_fd y 10 j (ab 10 b') = q_fd x 10 j (ab 10 b') := fun j hj => by rw [u.2.2.2.2.2.2, if_neg (fun z => hj z.2.1)]
    have fk : q_fd y 10 4 (ab 10 b') = .int (upd (T.2 28) b' w b') := by rw [u.2.2.2.2.2.2, if_pos ⟨rfl, rfl, rfl⟩, upd_s]
    exact ⟨al, (fd 0 (by decide)).trans o2, (fd 1 (by decide)).trans o3, (fd 2 (by decide)).trans o4, (fd 3 (by decide)).trans o5, fk, (fd 5 (by decide)).trans o7, (fd 6 (by decide)).trans o8⟩
  · have e : upd (T.2 28) b w b' = T.2 28 b' := upd_n hc
    have := o.fr (un_uF u (fun z => hc (hBB.2 b' b hb' hb z.2)))
    show oB y (ab 10 b') _ _ _ _ (upd (T.2 28) b w b') _ _
    rw [e]
    exact this
set_option maxHeartbeats 1000000 in
theorem pI_28 {b : Nat} {w : Int32} (hp : pI T E O v sg rp) (hb : b < tN T 23) : pI (tset T 28 (upd (T.2 28) b w)) E O v sg rp := by
  obtain ⟨hc, hd, hk, hbb, hx, ⟨he, h, hs⟩, hr⟩ := hp
  refine ⟨hc, hd, hk, hbb, hx, ⟨he, fun b' hb' => ?_, hs⟩, hr⟩
  have hb' : tN T 23 ≤ b' := hb'
  have e : upd (T.2 28) b w b' = 0 := by rw [upd_n (by omega)]; exact (h b' hb').1
  exact ⟨e, (h b' hb').2⟩
set_option maxHeartbeats 1000000 in
theorem hI_29 {b : Nat} {w : Int32} (hh : hI x A ab L O v sg rp T) (hb : b < tN T 23) (u : uF x y 10 5 (ab 10 b) (.int w)) : hI y A ab L O v sg rp (tset T 29 (upd (T.2 29) b w)) := by
  obtain ⟨⟨kn, hS, hR⟩, ⟨hJ, hw, l2, l7, l9, l10, l11, ln, li⟩, hDD, hKK, hCC, hBB⟩ := hh
  have U : ∀ c a, c ≠ 10 → un x y c a := fun c a hc => un_uF u (fun z => hc z.1)
  refine ⟨⟨kn, hS.fu (U _ _ (by decide)) (U _ _ (by decide)) (U _ _ (by decide)) (U _ _ (by decide)) (U _ _ (by decide)) (by rw [u.2.2.2.1]) (by rw [u.2.2.2.1]), hR⟩, ⟨jL_uF hJ u (by decide), wf_uF hw u, l2, l7, l9, l10, l11, ln, li⟩, fun i hi => ⟨(hDD i hi).1.fr (U 6 _ (by decide)), fun k hk => ((hDD i hi).2 k hk).fr (U 7 _ (by decide))⟩, ⟨fun j hj => (hKK.1 j hj).fr (U 8 _ (by decide)), hKK.2⟩, ⟨fun c hc => ⟨(hCC.1 c hc).1.fr (U 9 _ (by decide)), by rw [u.2.2.2.1]; exact (hCC.1 c hc).2⟩, hCC.2⟩, ⟨fun b' hb' => ?_, hBB.2⟩⟩
  obtain ⟨o, wv, ow, ov⟩ := hBB.1 b' hb'
  refine ⟨?_, wv, by rw [u.2.2.2.1]; exact ow, ov⟩
  by_cases hc : b' = b
  · subst hc
    obtain ⟨o1, o2, o3, o4, o5, o6, o7, o8⟩ := o
    have al : q_al y 10 (ab 10 b') = true := by rw [u.2.2.1]; exact o1
    have fd : ∀ j, j ≠ 5 → q_fd y 10 j (ab 10 b') = q_fd x 10 j (ab 10 b') := fun j hj => by rw [u.2.2.2.2.2.2, if_neg (fun z => hj z.2.1)]
    have fk : q_fd y 10 5 (ab 10 b') = .int (upd (T.2 29) b' w b') := by rw [u.2.2.2.2.2.2, if_pos ⟨rfl, rfl, rfl⟩, upd_s]
    exact ⟨al, (fd 0 (by decide)).trans o2, (fd 1 (by decide)).trans o3, (fd 2 (by decide)).trans o4, (fd 3 (by decide)).trans o5, (fd 4 (by decide)).trans o6, fk, (fd 6 (by decide)).trans o8⟩
  · have e : upd (T.2 29) b w b' = T.2 29 b' := upd_n hc
    have := o.fr (un_uF u (fun z => hc (hBB.2 b' b hb' hb z.2)))
    show oB y (ab 10 b') _ _ _ _ _ (upd (T.2 29) b w b') _
    rw [e]
    exact this
set_option maxHeartbeats 1000000 in
theorem pI_29 {b : Nat} {w : Int32} (hp : pI T E O v sg rp) (hb : b < tN T 23) : pI (tset T 29 (upd (T.2 29) b w)) E O v sg rp := by
  obtain ⟨hc, hd, hk, hbb, hx, ⟨he, h, hs⟩, hr⟩ := hp
  refine ⟨hc, hd, hk, hbb, hx, ⟨he, fun b' hb' => ?_, hs⟩, hr⟩
  have hb' : tN T 23 ≤ b' := hb'
  have e : upd (T.2 29) b w b' = 0 := by rw [upd_n (by omega)]; exact (h b' hb').2.1
  exact ⟨(h b' hb').1, e, (h b' hb').2.2⟩
set_option maxHeartbeats 1000000 in
theorem hI_30 {b : Nat} {w : Int32} (hh : hI x A ab L O v sg rp T) (hb : b < tN T 23) (u : uF x y 10 6 (ab 10 b) (.int w)) : hI y A ab L O v sg rp (tset T 30 (upd (T.2 30) b w)) := by
  obtain ⟨⟨kn, hS, hR⟩, ⟨hJ, hw, l2, l7, l9, l10, l11, ln, li⟩, hDD, hKK, hCC, hBB⟩ := hh
  have U : ∀ c a, c ≠ 10 → un x y c a := fun c a hc => un_uF u (fun z => hc z.1)
  refine ⟨⟨kn, hS.fu (U _ _ (by decide)) (U _ _ (by decide)) (U _ _ (by decide)) (U _ _ (by decide)) (U _ _ (by decide)) (by rw [u.2.2.2.1]) (by rw [u.2.2.2.1]), hR⟩, ⟨jL_uF hJ u (by decide), wf_uF hw u, l2, l7, l9, l10, l11, ln, li⟩, fun i hi => ⟨(hDD i hi).1.fr (U 6 _ (by decide)), fun k hk => ((hDD i hi).2 k hk).fr (U 7 _ (by decide))⟩, ⟨fun j hj => (hKK.1 j hj).fr (U 8 _ (by decide)), hKK.2⟩, ⟨fun c hc => ⟨(hCC.1 c hc).1.fr (U 9 _ (by decide)), by rw [u.2.2.2.1]; exact (hCC.1 c hc).2⟩, hCC.2⟩, ⟨fun b' hb' => ?_, hBB.2⟩⟩
  obtain ⟨o, wv, ow, ov⟩ := hBB.1 b' hb'
  refine ⟨?_, wv, by rw [u.2.2.2.1]; exact ow, ov⟩
  by_cases hc : b' = b
  · subst hc
    obtain ⟨o1, o2, o3, o4, o5, o6, o7, o8⟩ := o
    have al : q_al y 10 (ab 10 b') = true := by rw [u.2.2.1]; exact o1
    have fd : ∀ j, j ≠ 6 → q_fd y 10 j (ab 10 b') = q_fd x 10 j (ab 10 b') := fun j hj => by rw [u.2.2.2.2.2.2, if_neg (fun z => hj z.2.1)]
    have fk : q_fd y 10 6 (ab 10 b') = .int (upd (T.2 30) b' w b') := by rw [u.2.2.2.2.2.2, if_pos ⟨rfl, rfl, rfl⟩, upd_s]
    exact ⟨al, (fd 0 (by decide)).trans o2, (fd 1 (by decide)).trans o3, (fd 2 (by decide)).trans o4, (fd 3 (by decide)).trans o5, (fd 4 (by decide)).trans o6, (fd 5 (by decide)).trans o7, fk⟩
  · have e : upd (T.2 30) b w b' = T.2 30 b' := upd_n hc
    have := o.fr (un_uF u (fun z => hc (hBB.2 b' b hb' hb z.2)))
    show oB y (ab 10 b') _ _ _ _ _ _ (upd (T.2 30) b w b')
    rw [e]
    exact this
set_option maxHeartbeats 1000000 in
theorem pI_30 {b : Nat} {w : Int32} (hp : pI T E O v sg rp) (hb : b < tN T 23) : pI (tset T 30 (upd (T.2 30) b w)) E O v sg rp := by
  obtain ⟨hc, hd, hk, hbb, hx, ⟨he, h, hs⟩, hr⟩ := hp
  refine ⟨hc, hd, hk, hbb, hx, ⟨he, fun b' hb' => ?_, hs⟩, hr⟩
  have hb' : tN T 23 ≤ b' := hb'
  have e : upd (T.2 30) b w b' = 0 := by rw [upd_n (by omega)]; exact (h b' hb').2.2.1
  exact ⟨(h b' hb').1, (h b' hb').2.1, e, (h b' hb').2.2.2⟩
theorem qI_set {t : Nat} {g : Nat → Int32} (h : qI T v) (ht : t ≠ 101) : qI (tset T t g) v := fun c hc => by
  have := h c hc
  rw [tset_o T g (fun z => ht z.symm)]
  exact this
theorem g_mock (hh : hI x A ab L O v sg rp T) (hp : pI T E O v sg rp) (hq : qI T v) (a : Int32) : (jf_Wo_liveMock x (A 4) a = some (x, none) ∧ ((jt_Mo_live T a = some (T, 0)) ∨ ∃ b, b < tN T 23 ∧ a = nI b ∧ jt_Mo_live T a = some (T, 1) ∧ T.2 102 b = 0)) ∨ ∃ b, b < tN T 23 ∧ a = nI b ∧ jf_Wo_liveMock x (A 4) a = some (x, some (ab 10 b)) ∧ jt_Mo_live T a = some (T, 1) ∧ T.2 102 b ≠ 0 := by
  have hl := g_live hh hp hq a
  obtain ⟨⟨kn, ⟨-, -, -, ⟨w1, -⟩, -⟩, -⟩, -, -, -, -, hBB⟩ := hh
  unfold jf_Wo_liveMock
  rw [y_av w1, Option.bind_some]
  rcases hl with ⟨e1, e2⟩ | ⟨b, hb, rfl, e1, e2⟩
  · rw [e1]; exact Or.inl ⟨rfl, Or.inl e2⟩
  · obtain ⟨⟨o1, o2, o3, o4, -⟩, -⟩ := hBB.1 b hb
    rw [e1, Option.bind_some]
    dsimp only
    rw [if_neg (fun z => by cases z), y_gI o1 o4, Option.bind_some]
    by_cases hm : T.2 102 b = 0
    · rw [if_pos hm]; exact Or.inl ⟨rfl, Or.inr ⟨b, hb, rfl, e2, hm⟩⟩
    · rw [if_neg hm]; exact Or.inr ⟨b, hb, rfl, rfl, e2, hm⟩
end BW
section BG
variable {x : q_S} {A : Nat → Nat} {T : tT} {E : Nat}
theorem g_recorded (h : gI x A T E) (hE : E + 100000 ≤ 1000000000) (a c : Int32) : gO' A x T E (jf_Bc_recorded x (A 0) a c) (jt_Mo_recorded T a c) := by
  have h0 := h
  obtain ⟨ab, L, O, v, sg, rp, hh, hp, hq⟩ := h
  have hl := g_mock hh hp hq a
  obtain ⟨⟨kn, ⟨⟨b1, b2, b3, b4, b5, b6, b7⟩, -, -, ⟨w1, -⟩, -⟩, -⟩, -, -, -, -, hBB⟩ := hh
  have hn := hp.1.2.2.2.1.2
  unfold jf_Bc_recorded jt_Mo_recorded
  rw [y_gRs b1 b5, Option.bind_some, y_av w1, Option.bind_some]
  rcases hl with ⟨e1, e2 | ⟨b, hb, rfl, e2, hm⟩⟩ | ⟨b, hb, rfl, e1, e2, hm⟩
  · rw [e1, e2]; exact gO_rd (r := 4294967296) h0 hE rfl rfl
  · rw [e1, e2, Option.bind_some, Option.bind_some]
    dsimp only
    rw [if_neg (c := (1 : Int32) = 0) (by decide), tl_n (by omega) (by decide), Option.bind_some, if_pos hm]
    exact gO_rd (r := 4294967296) h0 hE rfl rfl
  · obtain ⟨⟨o1, o2, o3, o4, o5, o6, o7, o8⟩, -⟩ := hBB.1 b hb
    rw [e1, e2, Option.bind_some, Option.bind_some]
    dsimp only
    rw [if_neg (c := (1 : Int32) = 0) (by decide), tl_n (by omega) (by decide), Option.bind_some, if_neg hm, if_neg (fun z => by cases z), isBelow_eq, Option.bind_some, in_eq, Option.bind_some, tin_blw (b := 2) (by decide)]
    dsimp only
    by_cases hc : blw c 2 = 0
    · rw [if_pos hc, if_pos hc]; exact gO_rd (r := 4294967296) h0 hE rfl rfl
    · rw [if_neg hc, if_neg hc]
      by_cases h1 : c = 0
      · rw [if_pos h1, if_pos h1, y_gI o1 o7, Option.bind_some, tl_n (by omega) (by decide), Option.bind_some]
        exact gO_rd h0 hE rfl rfl
      · rw [if_neg h1, if_neg h1, y_gI o1 o8, Option.bind_some, tl_n (by omega) (by decide), Option.bind_some]
        exact gO_rd h0 hE rfl rfl
theorem g_stub (h : gI x A T E) (hE : E + 100000 ≤ 1000000000) (a c : Int32) : gO' A x T E (jf_Bc_stub x (A 0) a c) (jt_Mo_stub T a c) := by
  have h0 := h
  obtain ⟨ab, L, O, v, sg, rp, hh, hp, hq⟩ := h
  have hh0 := hh
  have hl := g_mock hh hp hq a
  obtain ⟨⟨kn, ⟨⟨b1, b2, b3, b4, b5, b6, b7⟩, -, -, ⟨w1, -⟩, -⟩, -⟩, -, -, -, -, hBB⟩ := hh
  have hn := hp.1.2.2.2.1.2
  unfold jf_Bc_stub jt_Mo_stub
  rw [y_gRs b1 b5, Option.bind_some, y_av w1, Option.bind_some]
  rcases hl with ⟨e1, e2 | ⟨b, hb, rfl, e2, hm⟩⟩ | ⟨b, hb, rfl, e1, e2, hm⟩
  · rw [e1, e2]; exact gO_rd (r := 0) h0 hE rfl rfl
  · rw [e1, e2, Option.bind_some, Option.bind_some]
    dsimp only
    rw [if_neg (c := (1 : Int32) = 0) (by decide), tl_n (by omega) (by decide), Option.bind_some, if_pos hm]
    exact gO_rd (r := 0) h0 hE rfl rfl
  · obtain ⟨⟨o1, -⟩, -⟩ := hBB.1 b hb
    rw [e1, e2, Option.bind_some, Option.bind_some]
    dsimp only
    rw [if_neg (c := (1 : Int32) = 0) (by decide), tl_n (by omega) (by decide), Option.bind_some, if_neg hm, if_neg (fun z => by cases z), tw_n (by omega) (by decide), Option.bind_some]
    refine st_pI (G := fun o => gO' A x T E o (some (tset T 28 (upd (T.2 28) b c), 1))) o1 (fun y u => ?_)
    exact ⟨y, _, 1, rfl, rfl, cFr_uF u (by decide), gI.mono (E := E) ⟨ab, L, O, v, sg, rp, hI_28 hh0 hb u, pI_28 hp hb, qI_set hq (by decide)⟩ (by omega) hE, by rw [u.1]; omega, by rw [u.2.1]; exact (show q_sl x + 2000 * tN T 23 ≤ q_sl x + 10000 + 2000 * tN T 23 by omega)⟩
end BG
