/-! get -/
section GE
variable {x y : q_S} {A : Nat → Nat} {T : tT} {E : Nat} {ab : Nat → Nat → Nat} {L : Nat → Option (List Nat)} {O : List Nat} {v sg : Nat → Nat → Int32} {rp : Nat → Nat}
theorem Stk_0 {c0 : Nat} (h0 : ∀ c, c < tN T 16 → v 0 c = 0) : Stk (tp T 32 0) v c0 0 := by
  refine ⟨rfl, fun j hj => absurd hj (Nat.not_lt_zero j), fun i j hi => absurd hi (Nat.not_lt_zero i), fun c d hc _ => ?_⟩
  rw [h0 c hc]
  exact ⟨fun z => absurd z (hs_0 d), fun ⟨j, hj, _⟩ => absurd hj (Nat.not_lt_zero j)⟩
/-- what a supply gives at the top -/
def topO (A : Nat → Nat) (O : List Nat) (rp : Nat → Nat) (v : Nat → Nat → Int32) (E0 : Nat) (x : q_S) (T : tT) (ab : Nat → Nat → Nat) (o : Option (q_S × Int32)) (t : Option (tT × Int32)) : Prop :=
  ∃ y r T2 ab' L' sg', o = some (y, r) ∧ t = some (T2, r) ∧ hI y A ab' L' O v sg' rp T2 ∧ pI T2 (E0 + tN T2 23) O v sg' rp ∧ tC T T2 ∧ tN T 23 ≤ tN T2 23 ∧ (∀ c i, c ≠ 10 → c ≠ 13 → ab' c i = ab c i) ∧ cFr x y ∧ ((∃ b, r = nI b ∧ b < tN T2 23 ∧ q_sz y + 3 * tN T 23 ≤ q_sz x + 3 * tN T2 23 ∧ q_sl y + 2000 * tN T 23 ≤ q_sl x + 2000 * tN T2 23) ∨ (r < -1 ∧ q_sz y + 3 * tN T 23 ≤ q_sz x + 3 * tN T2 23 + 64 ∧ q_sl y + 2000 * tN T 23 ≤ q_sl x + 2000 * tN T2 23 + 640))
theorem supply_eq {E0 n c d : Nat} (hE : E0 + 201 ≤ 1000000000) (hn : 31 ≤ n) (hh : hI x A ab L O v sg rp T) (hp : pI T (E0 + tN T 23) O v sg rp) (hc : c < tN T 16) (h0 : ∀ c, c < tN T 16 → v 0 c = 0) (hv : ∀ h, chn T c h → v 1 h = 0) (hd : d < tN T 2) (hin : hs (T.2 18 (tV T 22 c)) d) : topO A O rp v E0 x T ab (jf_Wo_supply (jg_Wo_supplyNeed n) x (A 4) (some (ab 9 c)) (nI d) 0) (jt_Mo_supply T (nI c) (nI d)) := by
  have h200 := hp.1.2.2.2.1.2
  have H1 : hI x A ab L O v sg rp (tp T 32 0) := hI_32 hh
  have P1 : pI (tp T 32 0) (E0 + tN T 23) O v sg rp := pI_32 hp
  have S1 := Stk_0 (T := T) (v := v) (c0 := c) h0
  have C1 := tC_tp32 (w := 0) T
  have k1 : tN (tp T 32 0) 23 = tN T 23 := rfl
  unfold jt_Mo_supply
  dsimp only [tpi]
  rw [Option.bind_some]
  generalize tp T 32 0 = T1 at H1 P1 S1 C1 k1 ⊢
  obtain ⟨T3, g, e1, y, r, T2, ab', L', sg', q1, q2, q3, q4, q5, q6, q7, q8, q9, q10, q11, q12⟩ := sup_all hE n 0 lpK x T1 ab L v sg c d H1 (by rw [k1]; exact P1) (by rw [C1.n (by decide)]; exact hc) S1 (Or.inl rfl) (fun h z => hv h (C1.ch.mp z)) (by rw [C1.n (by decide)]; exact hd) (by rw [C1.v (t := 22) (by decide), C1.2 18 (by decide)]; exact hin) (by omega) (by omega) (by unfold lpK; omega)
  rw [e1, Option.bind_some]
  dsimp only
  have m200 := q3.1.2.2.2.1.2
  rcases q12 with ⟨b, m', t1, t2, t3, t4, t5, t6, t7⟩ | ⟨t1, t2, t3, t4⟩
  · have f32 : T2.1 32 = nI 0 := t5.1.trans S1.1
    obtain ⟨m', rfl⟩ : ∃ m'', m' = m'' + 1 := ⟨m' - 1, by unfold lpK at t4; omega⟩
    have fin : jt_Mo_supply_L12 (m' + 1) T2 r = some (T2, r) := by
      show jt_Mo_supply_B12 (jt_Mo_supply_L12 m') T2 r = _
      unfold jt_Mo_supply_B12
      rw [if_pos (show tf T2 32 ≤ 0 by rw [show tf T2 32 = nI 0 from f32]; decide)]
    exact ⟨y, r, T2, ab', L', sg', q1, t3.trans fin, q2, q3, C1.tr q4, by omega, q6, q9, Or.inl ⟨b, t1, t2, by omega, by omega⟩⟩
  · exact ⟨y, r, T2, ab', L', sg', q1, t2, q2, q3, C1.tr q4, by omega, q6, q9, Or.inr ⟨t1, by omega, by omega⟩⟩
set_option maxHeartbeats 4000000 in
theorem g_get (h : gI x A T E) (hE : E + 100000 ≤ 1000000000) (a b c d : Int32) : gO' A x T E (jf_Bc_get x (A 0) a b c d) (jt_Mo_get T a b c d) := by
  have h0 := h
  obtain ⟨ab, L, O, v, sg, rp, hh, hp, hq⟩ := h
  have hh0 := hh
  have h30 := hp.1.2.2.1.2
  have h10 := hp.1.1.2
  have h200 := hp.1.2.2.2.1.2
  have hx := g_ctx hh hp hq a
  have hJ := hh.2.1.1
  have hw := hh.2.1.2.1
  have noT : ∀ n, (blw b 6 = 0 ∨ blw c 4 = 0 ∨ nam d = 0) → jt_Mo_cachedFor T a = some (T, n) → jt_Mo_get T a b c d = some (T, -1) := fun n hz e => by
    unfold jt_Mo_get
    rw [e, Option.bind_some]
    dsimp only
    by_cases hn : n < 0
    · rw [if_pos hn]
    · rw [if_neg hn, asked_eq, Option.bind_some]
      dsimp only
      rw [if_pos]
      by_cases h1 : blw b 6 = 0
      · rw [if_pos h1]
      · rw [if_neg h1]
        by_cases h2 : blw c 4 = 0
        · rw [if_pos h2]
        · rw [if_neg h2]
          rcases hz with z | z | z
          · exact absurd z h1
          · exact absurd z h2
          · rw [if_pos z]
  have noT' : (blw b 6 = 0 ∨ blw c 4 = 0 ∨ nam d = 0) → jt_Mo_get T a b c d = some (T, -1) := fun hz => by
    rcases hx with ⟨-, e2⟩ | ⟨k, -, -, -, -, e2⟩
    · exact noT _ hz e2
    · exact noT _ hz e2
  obtain ⟨⟨kn, ⟨⟨b1, b2, b3, b4, b5, b6, b7⟩, -, -, ⟨w1, -⟩, -⟩, hR⟩, -⟩ := hh
  unfold jf_Bc_get
  rw [isType_eq, Option.bind_some]
  dsimp only
  by_cases h1 : blw b 6 = 0
  · rw [if_pos h1, noT' (Or.inl h1)]; exact gO_rd (r := -1) h0 hE rfl rfl
  · rw [if_neg h1, isQualifier_eq, Option.bind_some]
    dsimp only
    by_cases h2 : blw c 4 = 0
    · rw [if_pos h2, noT' (Or.inr (Or.inl h2))]; exact gO_rd (r := -1) h0 hE rfl rfl
    · rw [if_neg h2, isName_eq, Option.bind_some]
      dsimp only
      by_cases h3 : nam d = 0
      · rw [if_pos h3, noT' (Or.inr (Or.inr h3))]; exact gO_rd (r := -1) h0 hE rfl rfl
      · rw [if_neg h3, y_av b1, Option.bind_some]
        unfold jt_Mo_get
        rcases hx with ⟨e1, e2⟩ | ⟨k, hkO, hk, hk1, e1, e2⟩
        · rw [e1, e2]; exact gO_rd (r := -1) h0 hE rfl rfl
        · obtain ⟨ty, hty, rfl⟩ := blw_n (n := 6) (by decide) h1
          rw [e1, e2, Option.bind_some, Option.bind_some]
          dsimp only
          rw [if_neg (fun z => by cases z), if_neg (nI_pos (by omega)), asked_eq, Option.bind_some, if_neg h1, if_neg h2, if_neg h3]
          dsimp only
          rw [if_neg i10, y_gRs b1 b5, Option.bind_some]
          have hnO : ∃ x1, q_nO x 7 jdv_7 = some x1 ∧ uN x x1 7 jdv_7 := ⟨_, rfl, ⟨rfl, rfl, rfl, rfl, rfl, fun _ _ => rfl, fun _ _ _ => rfl⟩⟩
          obtain ⟨x1, e33, u⟩ := hnO
          have w1' := wf_uN hw u
          have J1 := jL_uN hJ u (by decide)
          have a7 : q_al x1 7 (q_sz x) = true := by rw [u.2.2.2.2.2.1, if_pos ⟨rfl, rfl⟩]
          have nE : ∃ y, jf_Ne_init x1 (q_sz x) (nI ty) c d = some (y, ()) ∧ jL y L ∧ wf y ∧ cFr x1 y ∧ (∀ c' a', ¬ (c' = 7 ∧ a' = q_sz x) → un x1 y c' a') ∧ q_ai y = q_ai x1 ∧ q_sz y = q_sz x1 ∧ q_sl y = q_sl x1 ∧ oN y (q_sz x) (nI ty) c d := by
            simp only [jf_Ne_init, jf_Rec_init, Option.bind_some]
            rw [y_pI a7, Option.bind_some]
            have v2 := uF_of x1 7 0 (q_sz x) (.int (nI ty))
            generalize q_putF x1 7 0 (q_sz x) (.int (nI ty)) = x2 at v2 ⊢
            have a72 : q_al x2 7 (q_sz x) = true := by rw [v2.2.2.1]; exact a7
            rw [y_pI a72, Option.bind_some]
            have v3 := uF_of x2 7 1 (q_sz x) (.int c)
            generalize q_putF x2 7 1 (q_sz x) (.int c) = x3 at v3 ⊢
            have a73 : q_al x3 7 (q_sz x) = true := by rw [v3.2.2.1]; exact a72
            rw [y_pI a73, Option.bind_some]
            have v4 := uF_of x3 7 2 (q_sz x) (.int d)
            generalize q_putF x3 7 2 (q_sz x) (.int d) = x4 at v4 ⊢
            have ne : ∀ (i j : Nat), i ≠ j → ¬ ((7 : Nat) = 7 ∧ i = j ∧ q_sz x = q_sz x) := fun i j h z => h z.2.1
            refine ⟨x4, rfl, jL_uF (jL_uF (jL_uF J1 v2 (by decide)) v3 (by decide)) v4 (by decide), wf_uF (wf_uF (wf_uF w1' v2) v3) v4, ((cFr_uF v2 (by decide)).tr (cFr_uF v3 (by decide))).tr (cFr_uF v4 (by decide)), fun c' a' hn => (un_uF v2 hn).tr ((un_uF v3 hn).tr (un_uF v4 hn)), by rw [v4.2.2.2.1, v3.2.2.2.1, v2.2.2.2.1], by rw [v4.1, v3.1, v2.1], by rw [v4.2.1, v3.2.1, v2.2.1], by rw [v4.2.2.1]; exact a73, ?_, ?_, ?_⟩
            · rw [v4.2.2.2.2.2.2, if_neg (ne _ _ (by decide)), v3.2.2.2.2.2.2, if_neg (ne _ _ (by decide)), v2.2.2.2.2.2.2, if_pos ⟨rfl, rfl, rfl⟩]
            · rw [v4.2.2.2.2.2.2, if_neg (ne _ _ (by decide)), v3.2.2.2.2.2.2, if_pos ⟨rfl, rfl, rfl⟩]
            · rw [v4.2.2.2.2.2.2, if_pos ⟨rfl, rfl, rfl⟩]
          obtain ⟨x4, n1, n2, n3, n4, n5, n6, n7, n8, n9⟩ := nE
          have H4 : hI x4 A ab L O v sg rp T := hI_fr hh0 n2 n3 (fun c' a' _ hal => by
            have hn : ¬ (c' = 7 ∧ a' = q_sz x) := fun z => by have := al_lt hw hal; omega
            exact (un_uN u hn).tr (n5 c' a' hn)) (fun t a' _ => by rw [n6, u.2.2.1])
          have F4 : cFr x x4 := (cFr_uN u (by decide)).tr n4
          have sz4 : q_sz x4 = q_sz x + 1 := by rw [n7, u.1]
          have sl4 : q_sl x4 = q_sl x + 3 := by rw [n8, u.2.1]; rfl
          have w44 : q_al x4 4 (A 4) = true := by
            obtain ⟨⟨kn', ⟨-, -, -, ⟨w1, -⟩, -⟩, -⟩, -⟩ := id H4
            exact w1
          rw [e33, Option.bind_some, n1, Option.bind_some]
          dsimp only
          rw [y_av w44, Option.bind_some, show jg_Wo_supplyNeed 40 x4 (A 4) (some (ab 9 k)) (some (q_sz x)) 0 = jf_Wo_supplyNeed (jg_Wo_supplyNeed 39) x4 (A 4) (some (ab 9 k)) (some (q_sz x)) 0 from rfl]
          rcases find_eq (l3 := 0) H4 hp (jg_Wo_supplyNeed 39) n9 hty h3 hk with ⟨w, e, he, f1, f2⟩ | ⟨h, d', hh1, hd1, hd2, hQ, f1, f2⟩
          · have hneg : ¬ 0 ≤ e := by rcases he with rfl | rfl <;> decide
            rw [f2, Option.bind_some, f1, Option.bind_some]
            dsimp only
            rw [if_neg hneg]
            have H5 : hI x4 A ab L O v sg rp (tp T 37 w) := hI_37 H4
            have P5 : pI (tp T 37 w) E O v sg rp := pI_37 hp
            have Q5 : qI (tp T 37 w) v := hq
            have k5 : tN (tp T 37 w) 23 = tN T 23 := rfl
            generalize tp T 37 w = T5 at H5 P5 Q5 k5 ⊢
            exact ⟨x4, T5, e, rfl, rfl, F4, gI.mono (E := E) ⟨ab, L, O, v, sg, rp, H5, P5, Q5⟩ (by omega) hE, by omega, by omega⟩
          · rw [f2, f1, Option.bind_some]
            dsimp only
            rw [if_pos (nI_pos' (by omega)), show tf (tp T 37 (nI h)) 37 = nI h from rfl]
            have hch : chn T k h := hQ (chn T k) (Or.inl rfl) (fun c u q1 q2 => chn_up hp hk q1 q2)
            have H5 : hI x4 A ab L O v sg rp (tp T 37 (nI h)) := hI_37 H4
            have P5 : pI (tp T 37 (nI h)) E O v sg rp := pI_37 hp
            have C5 := tC_tp37 (w := nI h) T
            have k5 : tN (tp T 37 (nI h)) 23 = tN T 23 := rfl
            generalize tp T 37 (nI h) = T5 at H5 P5 C5 k5 ⊢
            have n16 : tN T5 16 = tN T 16 := C5.n (by decide)
            have n2' : tN T5 2 = tN T 2 := C5.n (by decide)
            have kept : ∀ h', chn T k h' → v 1 h' = 0 := fun h' z => by
              have hl := chn_lt hp hk z
              rw [(hq h' hl).2]
              rcases z with rfl | z
              · rw [if_pos hk1]
              · rw [if_pos (up_kept hp hk hk1 z)]
            have tr : ∀ h', chn T5 h h' → chn T k h' := fun h' z => by
              have z := C5.ch.mp z
              rcases z with rfl | z | ⟨u, z1, z2⟩
              · exact hch
              · exact chn_up hp hk hch z
              · exact chn_up hp hk (chn_up hp hk hch z1) z2
            obtain ⟨y, r, T2, ab', L', sg', q1, q2, q3, q4, q5, q6, q7, q8, q9⟩ := supply_eq (E0 := E) (n := 39) (c := h) (d := d') (by omega) (by decide) H5 (P5.mono (by omega) (by omega)) (by omega) (fun c' hc' => (hq c' (by omega)).1) (fun h' z => kept h' (tr h' z)) (by omega) (by rw [C5.v (t := 22) (by decide), C5.2 18 (by decide)]; exact hd2)
            rw [q1, Option.bind_some, Option.bind_some, q2, Option.bind_some]
            have m200 := q4.1.2.2.2.1.2
            have C2 := C5.tr q5
            have Q2 : qI T2 v := fun c' hc' => by
              rw [C2.n (by decide)] at hc'
              rw [C2.2 101 (by decide)]
              exact hq c' hc'
            refine ⟨y, T2, r, rfl, rfl, F4.tr q8, gI.mono (E := E + tN T2 23) ⟨ab', L', O, v, sg', rp, q3, q4, Q2⟩ (by omega) hE, ?_, ?_⟩
            · rcases q9 with ⟨b', -, -, z1, z2⟩ | ⟨-, z1, z2⟩ <;> omega
            · rcases q9 with ⟨b', -, -, z1, z2⟩ | ⟨-, z1, z2⟩ <;> omega
end GE
