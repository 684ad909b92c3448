/-! Supplying a bean. -/
section SV
variable {x y : q_S} {A : Nat → Nat} {T : tT} {E : Nat} {ab : Nat → Nat → Nat} {L : Nat → Option (List Nat)} {O : List Nat} {v sg : Nat → Nat → Int32} {rp : Nat → Nat}
theorem hI_pu {k : Nat} {c d : Int32} (hh : hI x A ab L O v sg rp T) : hI x A ab L O v sg rp (tPu T k c d) := hh
theorem pI_pu {k : Nat} {c d : Int32} (hp : pI T E O v sg rp) : pI (tPu T k c d) E O v sg rp := hp
theorem pI_v0 {c : Nat} {w : Int32} (hp : pI T E O v sg rp) : pI T E O (upv v 0 c w) sg rp := hp
theorem pI_v0' {c : Nat} {w : Int32} (hp : pI T E O (upv v 0 c w) sg rp) : pI T E O v sg rp := hp
theorem tC_pu {k : Nat} {c d : Int32} (T : tT) : tC T (tPu T k c d) := ⟨fun j hj => by
  simp only [List.contains_cons, List.contains_nil, Bool.or_eq_false_iff, beq_eq_false_iff_ne, ne_eq] at hj
  exact if_neg hj.2.1, fun t ht => by
  simp only [List.contains_cons, List.contains_nil, Bool.or_eq_false_iff, beq_eq_false_iff_ne, ne_eq] at ht
  show (if t = 33 then _ else if t = 32 then _ else if t = 31 then _ else T.2 t) = T.2 t
  rw [if_neg ht.2.2.2.2.2.2.1, if_neg ht.2.2.2.2.2.1, if_neg ht.2.2.2.2.1]⟩
theorem upv_upv {k c : Nat} {w : Int32} : upv (upv v k c w) k c (v k c) = v := by
  funext k' c'
  by_cases h : k' = k ∧ c' = c
  · obtain ⟨rfl, rfl⟩ := h; rw [upv_s]
  · rw [upv_n h, upv_n h]
theorem Stk_pu {c0 k c d : Nat} (hst : Stk T v c0 k) (h10 : tN T 2 ≤ 10) (h30 : tN T 16 ≤ 30) (hc : c < tN T 16) (hch : chn T c0 c) (hd : d < tN T 2) (hm : ¬ hs (T.2 19 (tV T 22 c)) d) (ho : ¬ hs (v 0 c) d) : Stk (tPu T k (nI c) (nI d)) (upv v 0 c (v 0 c ||| ((1 : Int32) <<< (nI d &&& 31)))) c0 (k + 1) := by
  have C := tC_pu (k := k) (c := nI c) (d := nI d) T
  have r31 : (tPu T k (nI c) (nI d)).2 31 = upd (T.2 31) k (nI c) := rfl
  have r32 : (tPu T k (nI c) (nI d)).2 32 = upd (T.2 32) k (nI d) := rfl
  have f32 : (tPu T k (nI c) (nI d)).1 32 = nI (k + 1) := rfl
  generalize tPu T k (nI c) (nI d) = T' at C r31 r32 f32
  obtain ⟨s1, s2, s3, s4⟩ := hst
  have v31 : ∀ j, j ≠ k → tV T' 31 j = tV T 31 j := fun j h => by unfold tV; rw [r31, upd_n h]
  have v32 : ∀ j, j ≠ k → tV T' 32 j = tV T 32 j := fun j h => by unfold tV; rw [r32, upd_n h]
  have w31 : tV T' 31 k = c := by unfold tV; rw [r31, upd_s, nI_clamp (by omega)]
  have w32 : tV T' 32 k = d := by unfold tV; rw [r32, upd_s, nI_clamp (by omega)]
  have n16 := C.n (k := 16) (by decide)
  have n2 := C.n (k := 2) (by decide)
  refine ⟨f32, fun j hj => ?_, fun i j hi hj e1 e2 => ?_, fun c' d' hc' hd' => ?_⟩
  · rw [C.ch, n2, C.v (t := 22) (by decide), C.2 19 (by decide)]
    by_cases e : j = k
    · subst e
      rw [w31, w32, r31, r32, upd_s, upd_s]
      exact ⟨rfl, rfl, hch, hd, hm⟩
    · rw [v31 j e, v32 j e, r31, r32, upd_n e, upd_n e]
      exact s2 j (by omega)
  · by_cases ei : i = k
    · by_cases ej : j = k
      · omega
      · rw [ei, w31, v31 j ej] at e1
        rw [ei, w32, v32 j ej] at e2
        exact absurd ((s4 c d hc (by omega)).mpr ⟨j, by omega, e1.symm, e2.symm⟩) ho
    · by_cases ej : j = k
      · rw [ej, w31, v31 i ei] at e1
        rw [ej, w32, v32 i ei] at e2
        exact absurd ((s4 c d hc (by omega)).mpr ⟨i, by omega, e1, e2⟩) ho
      · rw [v31 i ei, v31 j ej] at e1
        rw [v32 i ei, v32 j ej] at e2
        exact s3 i j (by omega) (by omega) e1 e2
  · rw [n16] at hc'
    have old : (∃ j, j < k + 1 ∧ tV T' 31 j = c' ∧ tV T' 32 j = d') ↔ (∃ j, j < k ∧ tV T 31 j = c' ∧ tV T 32 j = d') ∨ (c' = c ∧ d' = d) := by
      constructor
      · rintro ⟨j, j1, j2, j3⟩
        by_cases e : j = k
        · rw [e, w31] at j2
          rw [e, w32] at j3
          exact Or.inr ⟨j2.symm, j3.symm⟩
        · rw [v31 j e] at j2
          rw [v32 j e] at j3
          exact Or.inl ⟨j, by omega, j2, j3⟩
      · rintro (⟨j, j1, j2, j3⟩ | ⟨rfl, rfl⟩)
        · exact ⟨j, by omega, by rw [v31 j (by omega)]; exact j2, by rw [v32 j (by omega)]; exact j3⟩
        · exact ⟨k, by omega, w31, w32⟩
    rw [old]
    by_cases e : c' = c
    · subst e
      rw [upv_s, hs_or, hs_mk (by omega) (by omega), s4 c' d' hc' hd']
      exact ⟨fun z => z.elim Or.inl (fun w => Or.inr ⟨rfl, w⟩), fun z => z.elim Or.inl (fun w => Or.inr w.2)⟩
    · rw [upv_n (fun z => e z.2), s4 c' d' hc' hd']
      exact ⟨Or.inl, fun z => z.elim id (fun w => absurd w.1 e)⟩
theorem clr_bit {u : Int32} {d : Nat} (hd : d < 32) (h : ¬ hs u d) : (u ||| ((1 : Int32) <<< (nI d &&& 31))) &&& (((1 : Int32) <<< (nI d &&& 31)) ^^^ (-1)) = u := hs_ext (fun j hj => by
  rw [hs_and hj, hs_or, hs_not hj, hs_mk hd hj]
  constructor
  · rintro ⟨z | z, w⟩
    · exact z
    · exact absurd z w
  · intro z
    exact ⟨Or.inl z, fun e => h (by rw [← e]; exact z)⟩)
set_option maxHeartbeats 8000000 in
theorem sup_all {E0 c0 : Nat} (hE : E0 + 201 ≤ 1000000000) : ∀ n, SUP A O rp E0 c0 n := by
  intro n
  induction n with
  | zero => intro k m x T ab L v sg c d _ _ _ _ _ _ _ _ h1 h2; omega
  | succ n ih =>
    intro k m x T ab L v sg c d hh hp hc0 hst hch hv0 hd hin hn hk hfu
    have h10 := hp.1.1.2
    have h30 := hp.1.2.2.1.2
    have h200 := hp.1.2.2.2.1.2
    have hc := chn_lt hp hc0 hch
    have ky := (hp.2.2.2.2.1.1 c hc).1.2.1
    rcases pre_eq hh hp hc hd hin (jg_Wo_supplyNeed (n + 1)) (nI k) with ⟨b, hb, -, -, e1, e2⟩ | ⟨e1, e2, hun⟩
    · rw [e2]
      exact ⟨T, nI b, e1, x, nI b, T, ab, L, sg, rfl, hh, hp, tC.rf T, Nat.le_refl _, fun _ _ _ _ => rfl, fun _ _ => rfl, fun b h1 h2 => by omega, cFr.rf x, fun _ _ => rfl, nB.rf k T, Or.inl ⟨b, m, rfl, hb, rfl, by omega, sS_of rfl rfl rfl rfl rfl, Nat.le_refl _, Nat.le_refl _⟩⟩
    · obtain ⟨⟨g1, g2, g3, g4, g5, g6, -⟩, g9⟩ := hh.2.2.2.2.1.1 c hc
      obtain ⟨k1, k2, k3, k4, -⟩ := hh.2.2.2.1.1 _ ky
      rw [e1, e2]
      unfold kR kS
      rw [y_gRs g1 g3, Option.bind_some, y_gI k1 k4, Option.bind_some]
      rcases mck_eq hp.1 hp.2.2.2.2.1 hc (d := d) (by omega) with ⟨m1, m2⟩ | ⟨m1, m2⟩
      · rcases cont_eq x (T.2 19 (tV T 22 c)) d with ⟨c1, c2⟩ | ⟨c1, c2⟩
        · rw [m2, Option.bind_some, c2, Option.bind_some]
          dsimp only
          rw [if_neg i10, if_neg i10]
          exact mock_eq hh hp hE hc hd hin m1 (hv0 c hch) hun (by omega) hk (fun j hj z => by
            have := (hst.2.1 j hj).2.2.2.2
            rw [← z.1, ← z.2] at this
            exact this m1)
        · exact absurd m1 c1
      · rcases cont_eq x (T.2 19 (tV T 22 c)) d with ⟨c1, c2⟩ | ⟨c1, c2⟩
        · exact absurd c1 m1
        · rw [m2, Option.bind_some, c2, Option.bind_some]
          dsimp only
          rw [if_pos i00, if_pos i00, y_gI g1 g6, Option.bind_some]
          rcases st46_eq hp hst hk hc0 hc hd with ⟨s1, s2⟩ | ⟨s1, s2⟩
          · rcases cont_eq x (v 0 c) d with ⟨d1, d2⟩ | ⟨d1, d2⟩
            · rw [s2, d2, Option.bind_some]
              dsimp only
              rw [if_neg i10]
              exact ⟨T, -5, rfl, x, -5, T, ab, L, sg, rfl, hh, hp, tC.rf T, Nat.le_refl _, fun _ _ _ _ => rfl, fun _ _ => rfl, fun b h1 h2 => by omega, cFr.rf x, fun _ _ => rfl, nB.rf k T, Or.inr ⟨by decide, lp_err (by decide) (by omega), by omega, by omega⟩⟩
            · exact absurd s1 d1
          · rcases cont_eq x (v 0 c) d with ⟨d1, d2⟩ | ⟨d1, d2⟩
            · exact absurd d1 s1
            · have hk30 : k < 30 := by
                have := stk_30 hst h10
                by_cases e : k = 30
                · obtain ⟨j, j1, j2, j3⟩ := this.2 e c d hch (by omega)
                  exact absurd ((hst.2.2.2 c d hc (by omega)).mpr ⟨j, j1, j2, j3⟩) s1
                · omega
              rw [s2, d2, Option.bind_some]
              dsimp only
              rw [if_pos i00, if_pos (show nI k < 30 from nI_lt (b := 30) hk30 (by decide)), y_gI g1 g6, Option.bind_some, y_pI g1, Option.bind_some]
              have u1 := uF_of x 9 4 (ab 9 c) (.int (v 0 c ||| ((1 : Int32) <<< (nI d &&& 31))))
              generalize q_putF x 9 4 (ab 9 c) (.int (v 0 c ||| ((1 : Int32) <<< (nI d &&& 31)))) = x1 at u1 ⊢
              have H1 := hI_open hh hc u1
              have hw1 := H1.2.1.2.1
              have hJ1 := H1.2.1.1
              have l71 := H1.2.1.2.2.2.1
              have ln1 := H1.2.1.2.2.2.2.2.2.2.1 d hd
              obtain ⟨i7, -, hl7⟩ := hJ1.1 _ _ l71
              obtain ⟨i6, -, hl6⟩ := hJ1.1 _ _ ln1
              have lS6 := L_size i6
              rw [ls_len] at lS6
              obtain ⟨o1, o2, o3, o4, o5, o6⟩ := (H1.2.2.1 d hd).1
              obtain ⟨kn, ⟨-, ⟨q1, q2, q3⟩, -, ⟨w1, w2, w3, w4⟩, -⟩, -⟩ := H1.1
              obtain ⟨-, -, -, -, ⟨t14, t14'⟩, tn⟩ := hp.2.1.1 d hd
              have hnI : ∃ x2, q_nI x1 4 (nI (tV T 14 d)) = some x2 ∧ uA x1 x2 4 (tV T 14 d) := ⟨_, y_nI (by omega), ⟨rfl, rfl, rfl, rfl, rfl, rfl, fun _ _ => rfl⟩⟩
              obtain ⟨x2, e22, u2⟩ := hnI
              have asmE : jf_Wo_assemble (jg_Wo_supplyNeed (n + 1)) x1 (A 4) (some (ab 9 c)) (nI d) (nI k) = jf_Wo_assemble_L25 (jg_Wo_supplyNeed (n + 1)) lpK x2 (A 4) (some (ab 9 c)) (nI d) (nI k) (some (ab 6 d)) (some (q_sz x1)) (nI 0) := by
                unfold jf_Wo_assemble jf_Ca_at
                rw [y_gRs w1 w2, Option.bind_some, y_av q1, Option.bind_some, y_gRs q1 q3, Option.bind_some, y_av i7.1, Option.bind_some, L_get i7 hl7 (by rw [ls_len]; exact hd), ls_get hd, Option.bind_some]
                dsimp only
                rw [y_ck o1, Option.bind_some, Option.bind_some]
                dsimp only
                rw [y_gRs o1 o6, Option.bind_some, y_av i6.1, Option.bind_some, lS6, Option.bind_some]
                dsimp only
                rw [e22, Option.bind_some]
                rfl
              have w2' := wf_uA hw1 u2
              have J2 : jL x2 L := jL.fr hJ1 (fun c b h => by rw [u2.2.2.1]; exact h) (fun a xs _ j => by rw [u2.2.2.2.2.2.1]) (fun a xs e _ _ => by rw [u2.2.2.2.1]) u2.2.2.2.2.1
              have AI2 : ∀ t a, q_ai x1 t a ≠ none → q_ai x2 t a = q_ai x1 t a := fun t a h => by
                have : a < q_sz x1 := Nat.lt_of_not_le (fun z => h (hw1.2.2.1 t a z).1)
                rw [u2.2.2.2.2.2.2, if_neg (fun z => by omega)]
              have H2 := hI_fr H1 J2 w2' (fun c' a _ _ => un_uA u2) AI2
              have F2 : cFr x x2 := (cFr_uF u1 (by decide)).tr ⟨by rw [u2.2.2.1], by rw [u2.2.2.2.2.2.1], fun t ht => by funext a; rw [u2.2.2.2.2.2.2, if_neg (fun z => by omega)], u2.2.2.2.2.1, by rw [u2.1]; omega, by rw [u2.2.1]; omega⟩
              have ai1 : q_ai x1 = q_ai x := u1.2.2.2.1
              have sz1 : q_sz x1 = q_sz x := u1.1
              have sl1 : q_sl x1 = q_sl x := u1.2.1
              have sz2 : q_sz x2 = q_sz x + 1 := by rw [u2.1, sz1]
              have sl2 : q_sl x2 = q_sl x + tV T 14 d := by rw [u2.2.1, sl1]
              have H3 : hI x2 A ab L O (upv v 0 c (v 0 c ||| ((1 : Int32) <<< (nI d &&& 31)))) sg rp (tPu T k (nI c) (nI d)) := hI_pu H2
              have P3 : pI (tPu T k (nI c) (nI d)) (E0 + tN T 23) O (upv v 0 c (v 0 c ||| ((1 : Int32) <<< (nI d &&& 31)))) sg rp := pI_v0 (pI_pu hp)
              have S3 := Stk_pu hst h10 h30 hc hch hd m1 s1
              have C3 := tC_pu (k := k) (c := nI c) (d := nI d) T
              have k3' : tN (tPu T k (nI c) (nI d)) 23 = tN T 23 := rfl
              have r33 : (tPu T k (nI c) (nI d)).2 33 = upd (T.2 33) k 0 := rfl
              have r31 : (tPu T k (nI c) (nI d)).2 31 = upd (T.2 31) k (nI c) := rfl
              have r32 : (tPu T k (nI c) (nI d)).2 32 = upd (T.2 32) k (nI d) := rfl
              have r25 : (tPu T k (nI c) (nI d)).2 25 = T.2 25 ∧ (tPu T k (nI c) (nI d)).2 26 = T.2 26 ∧ (tPu T k (nI c) (nI d)).2 34 = T.2 34 := ⟨rfl, rfl, rfl⟩
              have f32 : (tPu T k (nI c) (nI d)).1 32 = nI (k + 1) := rfl
              refine ⟨_, _, rfl, ?_⟩
              generalize tPu T k (nI c) (nI d) = T3 at H3 P3 S3 C3 k3' r33 r31 r32 r25 f32 ⊢
              obtain ⟨m', rfl⟩ : ∃ m', m = m' + 1 := ⟨m - 1, by omega⟩
              have A0 := asm_L (c := c) (d := d) (wa := q_sz x1) (nd := tV T 14 d) (v := upv v 0 c (v 0 c ||| ((1 : Int32) <<< (nI d &&& 31)))) hE ih hk30 (by omega) (tV T 14 d) 0 lpK m' x2 T3 ab L sg (fun _ => 0) (Nat.zero_add _) (by unfold lpK; omega) H3 (by rw [k3']; exact P3) (by rw [C3.n (by decide)]; exact hc0) (fun h z => by rw [upv_n (fun w => by cases w.1)]; exact hv0 h (C3.ch.mp z)) S3 (by rw [r33, upd_s]; rfl) (by unfold tV; rw [r31, upd_s, nI_clamp (by omega)]) (by unfold tV; rw [r32, upd_s, nI_clamp (by omega)]) (C3.v (by decide) d).symm (by rw [C3.v (t := 22) (by decide), C3.2 18 (by decide)]; exact hin) (fun z b' hb' => by
                rw [C3.v (t := 22) (by decide), upv_n (fun w => by cases w.1)] at z
                unfold tV
                rw [r25.1, r25.2.1]
                exact hun z b' (by omega)) (by rw [u2.2.2.2.2.2.2, if_pos ⟨rfl, rfl⟩]) (fun j hj => absurd hj (Nat.not_lt_zero j)) (fun b hb => by
                obtain ⟨-, wf', wq, -⟩ := hh.2.2.2.2.2.1 b (by omega)
                have : ab 13 b < q_sz x := Nat.lt_of_not_le (fun z => by rw [(hh.2.1.2.1.2.2.1 4 _ z).1] at wq; cases wq)
                omega) (by omega)
              obtain ⟨y, r, T2, ab', L', sg', p1, p2, p3, p4, p5, p6, p7, p8, p9, p10, p11, p12⟩ := A0
              have w11 : q_al x1 4 (A 4) = true := w1
              rw [y_av w11, Option.bind_some, asmE, p1, Option.bind_some]
              dsimp only
              have C2 := C3.tr p4
              have n16 : tN T2 16 = tN T 16 := C2.n (by decide)
              have hc2 : c < tN T2 16 := by omega
              obtain ⟨⟨y1', -, -, -, -, y6', -⟩, -⟩ := p2.2.2.2.2.1.1 c hc2
              have a9 : ab' 9 c = ab 9 c := p6 9 c (by decide) (by decide)
              rw [upv_s] at y6'
              rw [a9] at y1' y6'
              rw [y_gI y1' y6', Option.bind_some, y_pI y1', Option.bind_some, clr_bit (by omega) s1]
              have u5 := uF_of y 9 4 (ab 9 c) (.int (v 0 c))
              generalize q_putF y 9 4 (ab 9 c) (.int (v 0 c)) = y5 at u5 ⊢
              have H5 := hI_open (c := c) (w := v 0 c) p2 hc2 (by rw [a9]; exact u5)
              rw [upv_upv] at H5
              have P5 : pI T2 (E0 + tN T2 23) O v sg' rp := pI_v0' p3
              have sz5 : q_sz y5 = q_sz y := u5.1
              have sl5 : q_sl y5 = q_sl y := u5.2.1
              have B2 : nB k T T2 := by
                refine ⟨fun b hb => ?_, fun b j h1 h2 hj => ?_⟩
                · have := p11.1 b (by omega)
                  rw [this.1, this.2, r25.1, r25.2.1]; exact ⟨rfl, rfl⟩
                · have := p11.2 b j (by omega) h2 hj
                  unfold tV at this ⊢
                  rw [r31, r32, upd_n (by omega), upd_n (by omega)] at this
                  exact this
              refine ⟨y5, r, T2, ab', L', sg', rfl, H5, P5, C2, by omega, p6, fun b hb => p7 b (by omega), fun b h1 h2 => ?_, (F2.tr p9).tr (cFr_uF u5 (by decide)), fun a ha => ?_, B2, ?_⟩
              · rcases p8 b (by omega) h2 with z | z
                · omega
                · omega
              · have hlt : a < q_sz x := Nat.lt_of_not_le (fun z => ha (hh.2.1.2.1.2.2.1 4 a z).1)
                have h1 : q_ai x1 4 a ≠ none := by rw [ai1]; exact ha
                have h2 := AI2 4 a h1
                rw [u5.2.2.2.1, p10 a (by omega) (by rw [h2]; exact h1), h2, ai1]
              · have lE : jt_Mo_supply_L12 (m' + 1) T3 (-1) = kB (jt_Mo_supply_L12 m') T3 := L12_neg f32 (by omega)
                rcases p12 with ⟨b6, m6, t1, t2, t3, t4, t5, t6, t7, t8, t9⟩ | ⟨t1, t2, t3, t4⟩
                · refine Or.inl ⟨b6, m6, t1, t2, lE.trans t3, by omega, ⟨t6.trans hst.1.symm, fun j hj => ?_, fun j hj => ?_⟩, by omega, by omega⟩
                  · have := t7.1 j hj
                    rw [this.1, this.2.1, this.2.2, r31, r32, r33, upd_n (by omega), upd_n (by omega), upd_n (by omega)]
                    exact ⟨rfl, rfl, rfl⟩
                  · rw [t7.2 j hj, r25.2.2]
                · exact Or.inr ⟨t1, lE.trans t2, by omega, by omega⟩
end SV
