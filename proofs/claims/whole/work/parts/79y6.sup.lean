/-! Supplying a bean: what comes before the making. -/
def kS (rcS : q_S → Nat → Option Nat → Option Nat → Int32 → Option (q_S × Int32)) (x : q_S) (a0 : Nat) (a1 : Option Nat) (a2 : Int32) (a3 : Int32) : Option (q_S × Int32) :=
    (q_gR x a1 9 1).bind fun v8 =>
    (q_gI x v8 8 2).bind fun v10 =>
    (jf_Bc_contains x v10 a2).bind fun p12 =>
    if p12.2 = 0 then
      (q_gI p12.1 a1 9 4).bind fun v15 =>
      (jf_Bc_contains p12.1 v15 a2).bind fun p17 =>
      if p17.2 = 0 then
        if a3 < 30 then
          (q_gI p17.1 a1 9 4).bind fun v21 =>
          (q_pI p17.1 a1 9 4 (v21 ||| ((1 : Int32) <<< (a2 &&& 31)))).bind fun x23 =>
          (q_av x23 (some a0) 4).bind fun b27 =>
          (jf_Wo_assemble rcS x23 b27 a1 a2 a3).bind fun p25 =>
          (q_gI p25.1 a1 9 4).bind fun v29 =>
          (q_pI p25.1 a1 9 4 (v29 &&& (((1 : Int32) <<< (a2 &&& 31)) ^^^ (-1)))).bind fun x31 =>
          some (x31, p25.2)
        else
          some (p17.1, (-5))
      else
        some (p17.1, (-5))
    else
      (q_nO p12.1 10 jdv_10).bind fun x33 =>
      (q_nI x33 4 0).bind fun x35 =>
      (jf_Be_init x35 (q_sz p12.1) a2 a1 1 (some (q_sz x33))).bind fun p37 =>
      (q_av p37.1 (some a0) 4).bind fun b41 =>
      (jf_Wo_keep p37.1 b41 (some (q_sz p12.1))).bind fun p39 =>
      some (p39.1, p39.2)
def kR (T : tT) (a1 a2 : Int32) : Option (tT × Int32) :=
    (jt_Mo_isMocked T a1 a2).bind fun p34 =>
    if p34.2 = 0 then
      jt_Mo_start_L46 lpK p34.1 a1 a2 0
    else
      (jt_Mo_make p34.1 a1 a2 (-1)).bind fun p37 =>
      some (p37.1, p37.2)
section SU
variable {x y : q_S} {A : Nat → Nat} {T : tT} {E : Nat} {ab : Nat → Nat → Nat} {L : Nat → Option (List Nat)} {O : List Nat} {v sg : Nat → Nat → Int32} {rp : Nat → Nat}
theorem pre_eq (hh : hI x A ab L O v sg rp T) (hp : pI T E O v sg rp) {c d : Nat} (hc : c < tN T 16) (hd : d < tN T 2) (hin : hs (T.2 18 (tV T 22 c)) d) (rcS : q_S → Nat → Option Nat → Option Nat → Int32 → Option (q_S × Int32)) (l3 : Int32) : (∃ b, b < tN T 23 ∧ tV T 25 b = c ∧ tV T 26 b = d ∧ jt_Mo_start T (nI c) (nI d) = some (T, nI b) ∧ jf_Wo_supply rcS x (A 4) (some (ab 9 c)) (nI d) l3 = some (x, nI b)) ∨ (jt_Mo_start T (nI c) (nI d) = kR T (nI c) (nI d) ∧ jf_Wo_supply rcS x (A 4) (some (ab 9 c)) (nI d) l3 = kS rcS x (A 4) (some (ab 9 c)) (nI d) l3 ∧ (hs (v 2 (tV T 22 c)) d → ∀ b', b' < tN T 23 → ¬ (tV T 25 b' = c ∧ tV T 26 b' = d))) := by
  have h10 := hp.1.1.2
  have h30 := hp.1.2.2.1.2
  have h200 := hp.1.2.2.2.1.2
  have ky := (hp.2.2.2.2.1.1 c hc).1.2.1
  obtain ⟨-, -, -, hKK, hCC, -⟩ := hh
  obtain ⟨⟨g1, g2, g3, g4, g5, -⟩, g9⟩ := hCC.1 c hc
  obtain ⟨k1, k2, k3, k4, k5, -⟩ := hKK.1 _ ky
  unfold jt_Mo_start jf_Wo_supply
  rw [y_gRs g1 g3, Option.bind_some, y_gI k1 k5, Option.bind_some]
  rcases many_eq hp.1 hp.2.2.2.2.1 hp.2.2.2.1 hc hd hin with ⟨m1, m2⟩ | ⟨m1, m2⟩
  · obtain ⟨o, o1, o2⟩ := hp.2.2.2.2.2.1.2.2 c d hc (by omega) m1
    have bn := bnOf_eq hp (c := c) (d := d) (by omega) (by omega) o2
    rcases cont_eq x (v 2 (tV T 22 c)) d with ⟨c1, c2⟩ | ⟨c1, c2⟩
    · rw [c2, Option.bind_some, m2, Option.bind_some]
      dsimp only
      rw [if_neg i10, if_pos i00, bn, Option.bind_some, y_gRs g1 g5, Option.bind_some, y_lI g9 (show d < 10 by omega) (by decide), Option.bind_some, o1]
      dsimp only
      cases o with
      | some b =>
        have hb := (o2 b).mp rfl
        refine Or.inl ⟨b, hb.1, hb.2.1, hb.2.2, ?_, ?_⟩
        · rw [if_neg (show ¬ oI (some b) < 0 from nI_pos (by omega))]; rfl
        · rw [if_neg (show ¬ oI (some b) = -1 from fun z => nI_pos (n := b) (by omega) (by rw [show nI b = -1 from z]; decide)), Option.bind_some, y_lI g9 (show d < 10 by omega) (by decide), Option.bind_some, o1]; rfl
      | none =>
        refine Or.inr ⟨?_, ?_, fun _ b' hb' z => by have := (o2 b').mpr ⟨hb', z⟩; cases this⟩
        · rw [if_pos (show oI none < 0 by decide)]; rfl
        · rw [if_pos (show oI none = -1 from rfl)]
          unfold kS
          rw [y_gRs g1 g3, Option.bind_some]
    · exact absurd m1 c1
  · rcases cont_eq x (v 2 (tV T 22 c)) d with ⟨c1, c2⟩ | ⟨c1, c2⟩
    · exact absurd c1 m1
    · rw [c2, Option.bind_some, m2, Option.bind_some]
      dsimp only
      rw [if_pos i00, if_neg i10]
      refine Or.inr ⟨rfl, ?_, fun z => absurd z m1⟩
      unfold kS
      rw [y_gRs g1 g3, Option.bind_some]
/-- one bean more -/
theorem pI_bn {b c d : Nat} {mk : Int32} {w : Nat → Int32} {go : Nat → Option Nat} {sg' : Nat → Nat → Int32} {z : Int32} (hp : pI T E O v sg rp) (hE : E + 1 ≤ 1000000000) (hb : b = tN T 23) (hb2 : b < 200) (hc : c < tN T 16) (hd : d < tN T 2) (hmk : mk = 0 ∨ mk = 1) (hv : v 1 c = 0) (hin : hs (T.2 18 (tV T 22 c)) d) (hm : mk = 1 ↔ hs (T.2 19 (tV T 22 c)) d) (hg : ∀ k, k < 3 → w k = oI (go k) ∧ (∀ g, go k = some g → g < b) ∧ (go k = none ↔ (if mk = 0 then tV T 14 d else 0) ≤ k)) (hun : hs (v 2 (tV T 22 c)) d → ∀ b', b' < b → ¬ (tV T 25 b' = c ∧ tV T 26 b' = d)) (hsg : (hs (v 2 (tV T 22 c)) d ∧ sg' = upv sg c d (nI b)) ∨ (¬ hs (v 2 (tV T 22 c)) d ∧ sg' = sg)) : pI (tNote (tBn T b (nI c) (nI d) mk w) z) (E + 1) O v sg' rp := by
  have e23 : tN (tBn T b (nI c) (nI d) mk w) 23 = b + 1 := nI_clamp (by omega)
  have h30 := hp.1.2.2.1.2
  have h10 := hp.1.1.2
  obtain ⟨⟨h1, h2, h3, h4, h5⟩, hD, hk, hB, hx, he, hr⟩ := hp
  have he' : eI (tBn T b (nI c) (nI d) mk w) v sg' := eI_mk (T1 := tBn T b (nI c) (nI d) mk w) (gv := w) (go := go) he hb.symm hb2 e23 rfl rfl (fun t a1 a2 a3 a4 => by
    show (if t = 27 then _ else if t = 102 then _ else if t = 26 then _ else if t = 25 then _ else T.2 t) = T.2 t
    rw [if_neg a4, if_neg a3, if_neg a2, if_neg a1]) rfl rfl rfl (fun b' k hk => upd3 hk) hc h30 hd h10 hmk hv hin hm hg hun hsg
  refine pI_note (T := tBn T b (nI c) (nI d) mk w) ⟨⟨h1, h2, h3, ⟨by rw [e23]; rfl, by rw [e23]; omega⟩, h5⟩, hD, hk, hB, hx, he', hr⟩ hE
theorem tC_bn {b : Nat} {c d mk : Int32} {w : Nat → Int32} {z : Int32} : tC T (tNote (tBn T b c d mk w) z) ∧ (tNote (tBn T b c d mk w) z).1 32 = T.1 32 ∧ (tNote (tBn T b c d mk w) z).2 31 = T.2 31 ∧ (tNote (tBn T b c d mk w) z).2 32 = T.2 32 ∧ (tNote (tBn T b c d mk w) z).2 33 = T.2 33 ∧ (tNote (tBn T b c d mk w) z).2 34 = T.2 34 := by
  refine ⟨⟨fun k hk => ?_, fun t ht => ?_⟩, rfl, rfl, rfl, rfl, rfl⟩
  · simp only [List.contains_cons, List.contains_nil, Bool.or_eq_false_iff, beq_eq_false_iff_ne, ne_eq] at hk
    show (if k = 38 then _ else if k = 23 then _ else T.1 k) = T.1 k
    rw [if_neg hk.2.2.2.1, if_neg hk.1]
  · simp only [List.contains_cons, List.contains_nil, Bool.or_eq_false_iff, beq_eq_false_iff_ne, ne_eq] at ht
    show (if t = 35 then _ else if t = 27 then _ else if t = 102 then _ else if t = 26 then _ else if t = 25 then _ else T.2 t) = T.2 t
    rw [if_neg ht.2.2.2.2.2.2.2.2.1, if_neg ht.2.2.1, if_neg ht.2.2.2.1, if_neg ht.2.1, if_neg ht.1]
theorem sS_of {k : Nat} {T T' : tT} (h1 : T'.1 32 = T.1 32) (h31 : T'.2 31 = T.2 31) (h32 : T'.2 32 = T.2 32) (h33 : T'.2 33 = T.2 33) (h34 : T'.2 34 = T.2 34) : sS k T T' := ⟨h1, fun j _ => by rw [h31, h32, h33]; exact ⟨rfl, rfl, rfl⟩, fun j _ => by rw [h34]⟩
theorem sS.tr {k : Nat} {T T' T'' : tT} (h : sS k T T') (g : sS k T' T'') : sS k T T'' := ⟨g.1.trans h.1, fun j hj => ⟨(g.2.1 j hj).1.trans (h.2.1 j hj).1, (g.2.1 j hj).2.1.trans (h.2.1 j hj).2.1, (g.2.1 j hj).2.2.trans (h.2.1 j hj).2.2⟩, fun j hj => (g.2.2 j hj).trans (h.2.2 j hj)⟩
theorem lp_err {m : Nat} {g : Int32} (hg : g < -1) (hm : 0 < m) : jt_Mo_supply_L12 m T g = some (T, g) := by
  obtain ⟨m, rfl⟩ : ∃ m', m = m' + 1 := ⟨m - 1, by omega⟩
  show jt_Mo_supply_B12 (jt_Mo_supply_L12 m) T g = _
  unfold jt_Mo_supply_B12
  by_cases h : tf T 32 ≤ 0
  · rw [if_pos h]
  · rw [if_neg h, if_neg (Int32.not_le.mpr hg)]
/-- the beans that are new are none that was being made -/
def nB (k : Nat) (T T' : tT) : Prop := (∀ b, b < tN T 23 → T'.2 25 b = T.2 25 b ∧ T'.2 26 b = T.2 26 b) ∧ ∀ b j, tN T 23 ≤ b → b < tN T' 23 → j < k → ¬ (tV T' 25 b = tV T 31 j ∧ tV T' 26 b = tV T 32 j)
theorem nB.rf (k : Nat) (T : tT) : nB k T T := ⟨fun _ _ => ⟨rfl, rfl⟩, fun b j h1 h2 => by omega⟩
/-- what supplying gives -/
def SUPo (A : Nat → Nat) (O : List Nat) (rp : Nat → Nat) (v : Nat → Nat → Int32) (E0 k m : Nat) (x : q_S) (T T1 : tT) (g : Int32) (ab : Nat → Nat → Nat) (o : Option (q_S × Int32)) : Prop :=
  ∃ y r T2 ab' L' sg', o = some (y, r) ∧ hI y A ab' L' O v sg' rp T2 ∧ pI T2 (E0 + tN T2 23) O v sg' rp ∧ tC T T2 ∧ tN T 23 ≤ tN T2 23 ∧ (∀ c i, c ≠ 10 → c ≠ 13 → ab' c i = ab c i) ∧ (∀ b, b < tN T 23 → ab' 13 b = ab 13 b) ∧ (∀ b, tN T 23 ≤ b → b < tN T2 23 → q_sz x ≤ ab' 13 b) ∧ cFr x y ∧ (∀ a, q_ai x 4 a ≠ none → q_ai y 4 a = q_ai x 4 a) ∧ nB k T T2 ∧ ((∃ b m', r = nI b ∧ b < tN T2 23 ∧ jt_Mo_supply_L12 m T1 g = jt_Mo_supply_L12 m' T2 r ∧ m ≤ m' + 4 * (tN T2 23 - tN T 23) ∧ sS k T T2 ∧ q_sz y + 3 * tN T 23 ≤ q_sz x + 3 * tN T2 23 ∧ q_sl y + 2000 * tN T 23 ≤ q_sl x + 2000 * tN T2 23) ∨ (r < -1 ∧ jt_Mo_supply_L12 m T1 g = some (T2, r) ∧ q_sz y + 3 * tN T 23 ≤ q_sz x + 3 * tN T2 23 + 2 * (32 - k) ∧ q_sl y + 2000 * tN T 23 ≤ q_sl x + 2000 * tN T2 23 + 20 * (32 - k)))
theorem b_fr (hh : hI x A ab L O v sg rp T) {b : Nat} (hb : b < tN T 23) : ab 10 b ≠ q_sz x := fun z => by
  have h1 := (hh.2.2.2.2.2.1 b hb).1.1
  have := al_lt hh.2.1.2.1 h1
  omega
set_option maxHeartbeats 4000000 in
theorem mock_eq {E0 k m c d : Nat} (hh : hI x A ab L O v sg rp T) (hp : pI T (E0 + tN T 23) O v sg rp) (hE : E0 + 201 ≤ 1000000000) (hc : c < tN T 16) (hd : d < tN T 2) (hin : hs (T.2 18 (tV T 22 c)) d) (hm : hs (T.2 19 (tV T 22 c)) d) (hv : v 1 c = 0) (hun : hs (v 2 (tV T 22 c)) d → ∀ b', b' < tN T 23 → ¬ (tV T 25 b' = c ∧ tV T 26 b' = d)) (hm0 : 0 < m) (hk : k ≤ 30) (hst : ∀ j, j < k → ¬ (c = tV T 31 j ∧ d = tV T 32 j)) : ∃ T1 g, ((jt_Mo_make T (nI c) (nI d) (-1)).bind fun p37 => some (p37.1, p37.2)) = some (T1, g) ∧ SUPo A O rp v E0 k m x T T1 g ab ((q_nO x 10 jdv_10).bind fun x33 => (q_nI x33 4 0).bind fun x35 => (jf_Be_init x35 (q_sz x) (nI d) (some (ab 9 c)) 1 (some (q_sz x33))).bind fun p37 => (q_av p37.1 (some (A 4)) 4).bind fun b41 => (jf_Wo_keep p37.1 b41 (some (q_sz x))).bind fun p39 => some (p39.1, p39.2)) := by
  have hh0 := hh
  have h10 := hp.1.1.2
  have h30 := hp.1.2.2.1.2
  have h200 := hp.1.2.2.2.1.2
  have e38 := hp.1.2.2.2.2.2.2.1
  have hJ := hh.2.1.1
  have hw := hh.2.1.2.1
  have hnO : ∃ x33, q_nO x 10 jdv_10 = some x33 ∧ uN x x33 10 jdv_10 := ⟨_, rfl, ⟨rfl, rfl, rfl, rfl, rfl, fun _ _ => rfl, fun _ _ _ => rfl⟩⟩
  obtain ⟨x33, e33, u33⟩ := hnO
  have hnI : ∃ x35, q_nI x33 4 0 = some x35 ∧ uA x33 x35 4 0 := by
    refine ⟨_, y_nI (n := 0) (by decide), ⟨rfl, rfl, rfl, rfl, rfl, rfl, fun _ _ => rfl⟩⟩
  obtain ⟨x35, e35, u35⟩ := hnI
  have w33 := wf_uN hw u33
  have w35 := wf_uA w33 u35
  have J33 := jL_uN hJ u33 (by decide)
  have J35 : jL x35 L := jL.fr J33 (fun c b h => by rw [u35.2.2.1]; exact h) (fun a xs _ j => by rw [u35.2.2.2.2.2.1]) (fun a xs e _ _ => by rw [u35.2.2.2.1]) u35.2.2.2.2.1
  have al35 : q_al x35 10 (q_sz x) = true := by rw [u35.2.2.1, u33.2.2.2.2.2.1, if_pos ⟨rfl, rfl⟩]
  obtain ⟨y1, b1, b2, b3, b4, b5, b6, b7, b8, b9, f0, f1, f2, f3, f4⟩ := bi_eq (d := nI d) (h := ab 9 c) (mk := 1) (w := q_sz x33) al35 (Or.inr rfl) J35 w35
  have U : ∀ c' a, q_al x c' a = true → un x y1 c' a := fun c' a h => by
    have hn : ¬ (c' = 10 ∧ a = q_sz x) := fun z => by have := al_lt hw h; omega
    exact ((un_uN u33 hn).tr (un_uA u35)).tr (b9 c' a hn)
  have s33 : q_sz x33 = q_sz x + 1 := u33.1
  have AI : ∀ t a, q_ai x t a ≠ none → q_ai y1 t a = q_ai x t a := fun t a h => by
    have : a < q_sz x := Nat.lt_of_not_le (fun z => h (hw.2.2.1 t a z).1)
    rw [b3, u35.2.2.2.2.2.2, if_neg (fun z => by omega), u33.2.2.1]
  have H1 : hI y1 A ab L O v sg rp T := hI_fr hh0 b6 b7 (fun c' a _ h => U c' a h) AI
  have F1 : cFr x y1 := ((cFr_uN u33 (by decide)).tr ⟨by rw [u35.2.2.1], by rw [u35.2.2.2.2.2.1], fun t ht => by funext a; rw [u35.2.2.2.2.2.2, if_neg (fun z => by omega)], u35.2.2.2.2.1, by rw [u35.1]; omega, by rw [u35.2.1]; omega⟩).tr b8
  have sz1 : q_sz y1 = q_sz x + 2 := by rw [b4, u35.1, s33]
  have sl1 : q_sl y1 = q_sl x + 7 := by rw [b5, u35.2.1, u33.2.1]; rfl
  have d4 : ∀ j, q_fd x35 10 j (q_sz x) = jdv_10.getD j .null := fun j => by rw [u35.2.2.2.2.2.1, u33.2.2.2.2.2.2, if_pos ⟨rfl, rfl⟩]
  have ob : oB y1 (q_sz x) (nI d) (ab 9 c) 1 (q_sz x33) 0 0 0 := ⟨by rw [b2]; exact al35, f0, f1, f2, f3, by rw [f4 4 (by decide), d4]; rfl, by rw [f4 5 (by decide), d4]; rfl, by rw [f4 6 (by decide), d4]; rfl⟩
  have w4 : q_al y1 4 (A 4) = true := by
    obtain ⟨⟨kn, ⟨-, -, -, ⟨w1, -⟩, -⟩, -⟩, -⟩ := H1
    exact w1
  rw [e33, Option.bind_some, e35, Option.bind_some, b1, Option.bind_some]
  dsimp only
  rw [y_av w4, Option.bind_some]
  by_cases hfull : tN T 23 = 200
  · have em : jt_Mo_make T (nI c) (nI d) (-1) = some (T, -7) := by
      unfold jt_Mo_make
      rw [show tf T 23 = nI (tN T 23) from hp.1.2.2.2.1.1, hfull, if_pos (show nI 200 = 200 from rfl)]
    rw [keep_full H1 hfull, Option.bind_some, em, Option.bind_some]
    exact ⟨T, -7, rfl, y1, -7, T, ab, L, sg, rfl, H1, hp, tC.rf T, Nat.le_refl _, fun _ _ _ _ => rfl, fun _ _ => rfl, fun b h1 h2 => by omega, F1, fun a h => AI 4 a h, nB.rf k T, Or.inr ⟨by decide, lp_err (by decide) hm0, by omega, by omega⟩⟩
  · have hb2 : tN T 23 < 200 := by omega
    have hwa : ∃ f, q_ai y1 4 (q_sz x33) = some (if (1 : Int32) = 0 then tV T 14 d else 0, f) ∧ ∀ k, k < (if (1 : Int32) = 0 then tV T 14 d else 0) → f k = (fun _ => (-1 : Int32)) k := by
      rw [if_neg i10]
      exact ⟨fun _ => 0, by rw [b3, u35.2.2.2.2.2.2, if_pos ⟨rfl, rfl⟩], fun k hk => absurd hk (Nat.not_lt_zero k)⟩
    obtain ⟨y, L', sg', q1, q2, q3, q4, q5, q6, q7⟩ := keep_eq (w := fun _ => -1) H1 hp (by omega) hc hd ob hwa (fun b' hb' => b_fr hh0 hb') hb2
    have em := make_eq (c := c) (d := d) (lv := -1) (mk := 1) (w := fun _ => -1) hp.1.2.2.2.1.1 hb2 (by omega) e38.1 (by omega) (Or.inl ⟨by decide, rfl⟩) (Or.inl ⟨by decide, fun _ => rfl⟩)
    have P := pI_bn (z := (64 : Int32) * 1 + nI d) (w := fun _ => -1) (go := fun _ => none) hp (by omega) rfl hb2 hc hd (Or.inr rfl) hv hin ⟨fun _ => hm, fun _ => rfl⟩ (fun k _ => ⟨rfl, (fun g z => by cases z), fun _ => by rw [if_neg i10]; exact Nat.zero_le _, fun _ => rfl⟩) hun q3
    obtain ⟨c1, c2, c3, c4, c5, c6⟩ := tC_bn (T := T) (b := tN T 23) (c := nI c) (d := nI d) (mk := 1) (w := fun _ => -1) (z := (64 : Int32) * 1 + nI d)
    have e23 : tN (tNote (tBn T (tN T 23) (nI c) (nI d) 1 (fun _ => -1)) ((64 : Int32) * 1 + nI d)) 23 = tN T 23 + 1 := nI_clamp (n := tN T 23 + 1) (by omega)
    rw [q1, Option.bind_some, em, Option.bind_some]
    refine ⟨_, _, rfl, y, nI (tN T 23), _, _, L', sg', rfl, q2, by rw [e23]; exact P, c1, by omega, fun c' i h1 h2 => by rw [adb_n (fun z => h2 z.1), adb_n (fun z => h1 z.1)], fun b hb => by rw [adb_n (fun z => by omega), adb_n (fun z => by cases z.1)], fun b h1 h2 => ?_, F1.tr q4, fun a h => by rw [q7]; exact AI 4 a h, ⟨fun b hb => ⟨upd_n (by omega), upd_n (by omega)⟩, fun b j h1 h2 hj => ?_⟩, Or.inl ⟨tN T 23, m, rfl, by omega, rfl, by omega, sS_of c2 c3 c4 c5 c6, by omega, by omega⟩⟩
    · have : b = tN T 23 := by omega
      rw [this, adb_s]
      omega
    · have : b = tN T 23 := by omega
      subst this
      show ¬ ((upd (T.2 25) (tN T 23) (nI c) (tN T 23)).toNatClampNeg = _ ∧ (upd (T.2 26) (tN T 23) (nI d) (tN T 23)).toNatClampNeg = _)
      rw [upd_s, upd_s, nI_clamp (by omega), nI_clamp (by omega)]
      exact hst j hj
end SU
