/-! reset -/
theorem i10 : ¬ ((1 : Int32) = 0) := by decide
theorem i00 : (0 : Int32) = 0 := rfl
section RS
variable {x : q_S} {A : Nat → Nat} {T : tT} {E : Nat} {ab : Nat → Nat → Nat} {L : Nat → Option (List Nat)} {O : List Nat} {v sg : Nat → Nat → Int32} {rp : Nat → Nat}
theorem live_eq (hp : pI T E O v sg rp) {b : Nat} (hb : b < tN T 23) : jt_Mo_live T (nI b) = some (T, if v 1 (tV T 25 b) = 0 then 1 else 0) := by
  obtain ⟨hc, hd, hk, hbb, hx, he, hr⟩ := hp
  obtain ⟨t1, t2⟩ := hc.2.2.2.1
  have q3 := (he.1 b hb).2.2.2.1
  have e1 : jt_Mo_in T (nI b) 0 (tf T 23 - 1) = some (T, 1) := by
    rw [in_eq, show tf T 23 = nI (tN T 23) from t1, show nI (tN T 23) - 1 = nI (tN T 23 - 1) from nI_sub (b := 1) (by omega)]
    refine congrArg some (Prod.ext rfl ?_)
    unfold tin
    rw [if_neg (nI_pos (by omega)), if_neg (nI_nlt (by omega) (by omega))]
  unfold jt_Mo_live
  rw [e1, Option.bind_some]
  dsimp only
  rw [if_neg (by decide), tl_n (by omega) (by decide), Option.bind_some, q3]
  by_cases hv : v 1 (tV T 25 b) = 0
  · rw [if_pos hv, if_pos hv]
  · rw [if_neg hv, if_neg hv]
theorem up_kept (hp : pI T E O v sg rp) {c d : Nat} (hc : c < tN T 16) (hk : T.2 101 c = 1) (h : isUp T d c) : T.2 101 d = 1 := by
  have hx := hp.2.2.2.2.1
  rcases h with h | ⟨u, h1, h2⟩
  · exact ((hx.1 c hc).2.1.2 d h).2 hk
  · have a1 := (hx.1 c hc).2.1.2 u h1
    exact ((hx.1 u (by omega)).2.1.2 d h2).2 (a1.2 hk)
set_option maxHeartbeats 2000000 in
theorem rst_L {c : Nat} : ∀ (m r b n : Nat) (x : q_S) (T : tT), hI x A ab L O v sg rp T → pI T E O v sg rp → qI T v → c < tN T 16 → T.2 101 c = 1 → b + r = tN T 23 → r < m → ∃ y T' k, jf_Wo_clearMocks_L4 m x (A 4) (some (ab 9 c)) (nI n) (nI b) = some (y, nI k) ∧ jt_Mo_reset_L17 m T (nI c) (nI n) (nI b) = some (T', nI k) ∧ hI y A ab L O v sg rp T' ∧ pI T' E O v sg rp ∧ qI T' v ∧ cFr x y ∧ q_sz y = q_sz x ∧ q_sl y = q_sl x ∧ tN T' 23 = tN T 23 := by
  intro m
  induction m with
  | zero => intro r b n x T _ _ _ _ _ _ h; omega
  | succ m ih =>
    intro r b n x T hh hp hq hc hk hbr hm
    have hh0 := hh
    obtain ⟨⟨kn, ⟨-, -, -, ⟨w1, w2, w3, w4⟩, -⟩, hR⟩, ⟨hJ, hw, l2, l7, l9, -⟩, -, -, hCC, hBB⟩ := hh
    obtain ⟨i9, -, hl⟩ := hJ.1 _ _ l9
    have lS := L_size i9
    rw [ls_len] at lS
    have e23 : tf T 23 = nI (tN T 23) := hp.1.2.2.2.1.1
    have h200 := hp.1.2.2.2.1.2
    have h30 := hp.1.2.2.1.2
    show ∃ y T' k, jf_Wo_clearMocks_B4 (jf_Wo_clearMocks_L4 m) x (A 4) (some (ab 9 c)) (nI n) (nI b) = some (y, nI k) ∧ jt_Mo_reset_B17 (jt_Mo_reset_L17 m) T (nI c) (nI n) (nI b) = some (T', nI k) ∧ _
    unfold jf_Wo_clearMocks_B4 jt_Mo_reset_B17
    rw [e23, y_gRs w1 w4, Option.bind_some, y_av i9.1, Option.bind_some, lS, Option.bind_some]
    dsimp only
    cases r with
    | zero =>
      have e : nI (tN T 23) ≤ nI b := nI_le (by omega) (by omega)
      rw [if_pos e, if_pos e]
      exact ⟨x, T, n, rfl, rfl, hh0, hp, hq, cFr.rf x, rfl, rfl, rfl⟩
    | succ r =>
      have hb : b < tN T 23 := by omega
      have e : ¬ nI (tN T 23) ≤ nI b := nI_ge hb (by omega)
      obtain ⟨⟨o1, o2, o3, o4, -⟩, -⟩ := hBB.1 b hb
      obtain ⟨⟨q1, q2⟩, -⟩ := hp.2.2.2.2.2.1.1 b hb
      have nx := ih r (b + 1) n x T hh0 hp hq hc hk (by omega) (by omega)
      rw [if_neg e, if_neg e, y_gRs w1 w4, Option.bind_some, y_av i9.1, Option.bind_some, L_get i9 hl (by rw [ls_len]; exact hb), ls_get hb, Option.bind_some, live_eq hp hb, Option.bind_some]
      dsimp only
      rw [y_ck o1, Option.bind_some, y_gI o1 o4, Option.bind_some, nI_1, nI_1]
      by_cases hm0 : T.2 102 b = 0
      · rw [if_pos hm0, tl_n (by omega) (by decide), Option.bind_some, if_pos hm0]
        by_cases hv : v 1 (tV T 25 b) = 0
        · rw [if_pos hv, if_neg i10]; exact nx
        · rw [if_neg hv, if_pos i00]; exact nx
      · obtain ⟨y1, c1, c2, c3, c4, c5, c6, c7⟩ := clear_eq hh0 hp hq hb
        obtain ⟨y, T', k, n1, n2, n3, n4, n5, n6, n7, n8, n9⟩ := ih r (b + 1) (n + 1) y1 (tClr T b) c2 c3 c4 hc hk (show b + 1 + r = tN T 23 by omega) (by omega)
        have fin : ∃ y T' k, jf_Wo_clearMocks_L4 m y1 (A 4) (some (ab 9 c)) (nI (n + 1)) (nI (b + 1)) = some (y, nI k) ∧ jt_Mo_reset_L17 m (tClr T b) (nI c) (nI (n + 1)) (nI (b + 1)) = some (T', nI k) ∧ hI y A ab L O v sg rp T' ∧ pI T' E O v sg rp ∧ qI T' v ∧ cFr x y ∧ q_sz y = q_sz x ∧ q_sl y = q_sl x ∧ tN T' 23 = tN T 23 :=
          ⟨y, T', k, n1, n2, n3, n4, n5, c5.tr n6, by omega, by omega, n9⟩
        rw [if_neg hm0, y_gRs o1 o3, Option.bind_some, Option.bind_some, tl_n (t := 102) (by omega) (by decide), Option.bind_some, if_neg hm0, tl_n (t := 25) (by omega) (by decide), Option.bind_some, Option.bind_some, q1, tw_n (t := 28) (by omega) (by decide), Option.bind_some, tw_n (t := 29) (by omega) (by decide), Option.bind_some, tw_n (t := 30) (by omega) (by decide), Option.bind_some]
        by_cases hhc : tV T 25 b = c
        · have hv : v 1 (tV T 25 b) = 0 := by rw [hhc, (hq c hc).2, if_pos hk]
          rw [if_pos hv, if_neg i10, if_pos (show some (ab 9 (tV T 25 b)) = some (ab 9 c) by rw [hhc]), if_pos (show nI (tV T 25 b) = nI c by rw [hhc]), y_av o1, Option.bind_some, c1, Option.bind_some]
          exact fin
        · have g1 := (hCC.1 c hc).1.1
          rw [if_neg (c := some (ab 9 (tV T 25 b)) = some (ab 9 c)) (fun z => hhc ((hCC.2 _ c q2 hc).1 (Option.some.inj z))), y_av g1, Option.bind_some, if_neg (c := nI (tV T 25 b) = nI c) (fun z => hhc ((nI_eq (by omega) (by omega)).mp z))]
          rcases hasA_eq hh0 hp hc q2 with ⟨u1, u2⟩ | ⟨u1, u2⟩
          · have hv : v 1 (tV T 25 b) = 0 := by rw [(hq _ q2).2, if_pos (up_kept hp hc hk u1)]
            rcases above_eq hp hc q2 with ⟨u3, u4⟩ | ⟨u3, -⟩
            · rw [if_pos hv, if_neg i10, u2, Option.bind_some, u4, Option.bind_some]
              dsimp only
              rw [if_neg i10, if_neg i10, y_av o1, Option.bind_some, c1, Option.bind_some, tw_n (t := 28) (by omega) (by decide), Option.bind_some, tw_n (t := 29) (by omega) (by decide), Option.bind_some, tw_n (t := 30) (by omega) (by decide), Option.bind_some]
              exact fin
            · exact absurd u1 u3
          · rcases above_eq hp hc q2 with ⟨u3, -⟩ | ⟨u3, u4⟩
            · exact absurd u3 u1
            · rw [u2, Option.bind_some, u4, Option.bind_some]
              dsimp only
              rw [if_pos i00, if_pos i00]
              by_cases hv : v 1 (tV T 25 b) = 0
              · rw [if_pos hv, if_neg i10]; exact nx
              · rw [if_neg hv, if_pos i00]; exact nx
theorem g_reset (h : gI x A T E) (hE : E + 100000 ≤ 1000000000) (a : Int32) : gO' A x T E (jf_Bc_reset x (A 0) a) (jt_Mo_reset T a) := by
  have h0 := h
  obtain ⟨ab, L, O, v, sg, rp, hh, hp, hq⟩ := h
  have hh0 := hh
  have h30 := hp.1.2.2.1.2
  have h200 := hp.1.2.2.2.1.2
  obtain ⟨⟨kn, ⟨⟨b1, b2, b3, b4, b5, b6, b7⟩, -, -, ⟨w1, -⟩, -⟩, hR⟩, -⟩ := hh
  unfold jf_Bc_reset jt_Mo_reset
  rw [y_av b1, Option.bind_some]
  rcases g_ctx hh0 hp hq a with ⟨e1, e2⟩ | ⟨c, hO, hc, hk, e1, e2⟩
  · rw [e1, e2]; exact gO_rd (r := -1) h0 hE rfl rfl
  · rw [e1, e2, Option.bind_some, Option.bind_some]
    dsimp only
    obtain ⟨y, T', k, n1, n2, n3, n4, n5, n6, n7, n8, n9⟩ := rst_L lpK (tN T 23) 0 0 x T hh0 hp hq hc hk (Nat.zero_add _) (by unfold lpK; omega)
    rw [if_neg (fun z => by cases z), if_pos (nI_pos' (by omega)), y_gRs b1 b5, Option.bind_some, y_av w1, Option.bind_some]
    unfold jf_Wo_clearMocks
    rw [show jf_Wo_clearMocks_L4 lpK x (A 4) (some (ab 9 c)) 0 0 = some (y, nI k) from n1, show jt_Mo_reset_L17 lpK T (nI c) 0 0 = some (T', nI k) from n2, Option.bind_some]
    exact ⟨y, T', _, rfl, rfl, n6, gI.mono (E := E) ⟨ab, L, O, v, sg, rp, n3, n4, n5⟩ (by omega) hE, by omega, by omega⟩
end RS
