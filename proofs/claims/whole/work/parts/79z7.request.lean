/-! request -/
section RQ
variable {x y : q_S} {A : Nat → Nat} {T : tT} {E : Nat} {ab : Nat → Nat → Nat} {L : Nat → Option (List Nat)} {O : List Nat} {v sg : Nat → Nat → Int32} {rp : Nat → Nat}
theorem neg_of {r : Int32} (h : r < -1) : ¬ 0 ≤ r := fun z => by
  rw [Int32.le_iff_toInt_le] at z
  rw [Int32.lt_iff_toInt_lt] at h
  have e1 : (-1 : Int32).toInt = -1 := by decide
  have e2 : (0 : Int32).toInt = 0 := by decide
  omega
theorem itr_c' {T T' : tT} (h : tK T T') : ∀ (s a κ : Nat), itr T' rp s a κ → itr T rp s a κ
  | 0, _, _, z => z
  | s + 1, a, κ, ⟨z1, b, z2, z3⟩ => ⟨by rw [← h.n (by decide)]; exact z1, b, by rw [← h.o (by decide)]; exact z2, itr_c' h s b κ z3⟩
/-- one build in the reference's second loop -/
theorem L120_eq {K0 κ s m : Nat} {l5 : Int32} (hk : kI T rp (tN T 11)) (e11 : T.1 11 = nI (tN T 11)) (hit : itr T rp s K0 κ) (hs : s < 10) : jt_Mo_obtain_L120 (m + 1) T (nI K0) l5 (nI s) = (jt_Mo_build T (nI κ) l5).bind fun p9 => if 0 ≤ p9.2 then jt_Mo_obtain_L120 m p9.1 (nI K0) p9.2 (nI s - 1) else some (p9.1, p9.2) := by
  show jt_Mo_obtain_B120 (jt_Mo_obtain_L120 m) T (nI K0) l5 (nI s) = _
  unfold jt_Mo_obtain_B120
  rw [if_neg (nI_pos (by omega))]
  have := L131_eq hk e11 (fun y8 l1_8 l5_8 l6_8 l7_8 l8_8 => (jt_Mo_build y8 l7_8 l5_8).bind fun p9 => if 0 ≤ p9.2 then jt_Mo_obtain_L120 m p9.1 l1_8 p9.2 (l6_8 + (-1)) else some (p9.1, p9.2)) (nI K0) l5 s K0 κ 0 lpK hit (by unfold lpK; omega) (by omega)
  rw [Nat.zero_add] at this
  refine this.trans ?_
  rw [nI_dec]
set_option maxHeartbeats 8000000 in
set_option maxRecDepth 20000 in
theorem ob_L {K0 : Nat} : ∀ (n κ s nn m : Nat) (x : q_S) (T : tT) (ab : Nat → Nat → Nat) (L : Nat → Option (List Nat)) (O : List Nat) (v sg : Nat → Nat → Int32) (E : Nat), hP x A ab L O v sg rp T E none → kd T rp n (some κ) → itr T rp s K0 κ → s + n ≤ 3 → n ≤ nn → n + 1 < m → E + 3000 * n ≤ 1000000000 → obO A rp (E + 1700 * n) κ (80 * n) (2600 * n) O x T ab (jg_Sh_obtain nn x (A 5) (some (ab 8 κ))) (fun T' rr => ∃ mL, 1000 ≤ mL + n ∧ ((jt_Mo_contextOf T (nI κ)).bind fun p => jt_Mo_obtain_L14 m p.1 (nI K0) (nI κ) (nI s) p.2 (nI s)) = if 0 ≤ rr then jt_Mo_obtain_L120 mL T' (nI K0) rr (nI s - 1) else some (T', rr)) := by
  intro n
  induction n with
  | zero =>
    intro κ s nn m x T ab L O v sg E _ h
    cases (show some κ = none from h)
  | succ n ih =>
    intro κ s nn m x T ab L O v sg E hh hkd hit hsn hnn hm hE
    obtain ⟨hκ, hrκ, hkd'⟩ := hkd κ rfl
    obtain ⟨nn, rfl⟩ : ∃ m', nn = m' + 1 := ⟨nn - 1, by omega⟩
    obtain ⟨m, rfl⟩ : ∃ m', m = m' + 1 := ⟨m - 1, by omega⟩
    have hh0 := hh
    obtain ⟨hi, hp, hq⟩ := id hh
    have hk := hp.2.2.1
    have e11 := hp.1.2.1.1
    have h8 := hp.1.2.1.2
    have h30 := hp.1.2.2.1.2
    obtain ⟨⟨kn, ⟨-, -, -, -, ⟨s1, s2, s3, s4, s5, s6⟩, -⟩, hR⟩, -, -, hKK, -⟩ := id hi
    obtain ⟨k1, k2, k3, k4, k5, k6, k7, k8⟩ := hKK.1 κ hκ
    rw [hrκ] at k8
    obtain ⟨o, ho, o1, o2⟩ := cxo_eq hh hκ hrκ
    have t21 := hp.2.2.2.1.2.1 κ
    show obO A rp (E + 1700 * (n + 1)) κ (80 * (n + 1)) (2600 * (n + 1)) O x T ab (jf_Sh_obtain (jg_Sh_obtain nn) x (A 5) (some (ab 8 κ))) _
    unfold jf_Sh_obtain
    rw [y_av s1, Option.bind_some, o2, Option.bind_some, o1]
    dsimp only
    cases o with
    | some c =>
      have hc := ((ho c).mp rfl)
      have hcn := (hh.lt hc.1).1
      obtain ⟨y, T', L', O', a1, a2, a3, a4, a5, a6, a7, a8⟩ := usek hh (by omega) hc.1
      have Y := a5.y
      have n16 : tN T' 16 = tN T 16 := Y.n (by decide)
      have n23 : tN T' 23 = tN T 23 := Y.n (by decide)
      obtain ⟨⟨g1, g2, -⟩, -⟩ := a3.1.2.2.2.2.1.1 c (by omega)
      rw [show Option.map (ab 9) (some c) = some (ab 9 c) from rfl, if_neg (fun z => by cases z), y_av s1, Option.bind_some, a1, Option.bind_some]
      dsimp only
      rw [y_gI g1 g2, Option.bind_some]
      refine ⟨y, nI c, T', ab, L', O', v, sg, E + 3, rfl, ⟨lpK, Nat.le_add_right _ _, ?_⟩, a3, by omega, Y.z.k, fun _ => rfl, a6, by omega, by omega, by omega, Or.inl ⟨c, rfl, (a4 c).mpr hc.1, (Y.v (by decide) c).trans hc.2, fun w hw => Or.inr ⟨w, (a4 w).mp hw, Y.v (by decide) w⟩, Y.2 21 (by decide)⟩⟩
      rw [Option.bind_some, if_pos (nI_pos' (by omega))]
      show jt_Mo_obtain_B14 (jt_Mo_obtain_L14 m) T (nI K0) (nI κ) (nI s) (nI c) (nI s) = _
      unfold jt_Mo_obtain_B14
      rw [if_neg (show ¬ (4 : Int32) ≤ nI s from nI_ge (a := s) (b := 4) (by omega) (by decide)), if_pos (nI_pos' (n := c) (by omega)), if_pos (nI_pos' (n := κ) (by omega)), if_neg (nI_pos (n := c) (by omega)), a2, Option.bind_some]
    | none =>
      have hno : ∀ w, w ∈ O → tV T 22 w ≠ κ := fun w hw z => by have := (ho w).mpr ⟨hw, z⟩; cases this
      rw [show Option.map (ab 9) none = none from rfl, if_pos rfl, y_gI k1 k8, Option.bind_some]
      have rE : ((some (T, oI none)).bind fun p => jt_Mo_obtain_L14 (m + 1) p.1 (nI K0) (nI κ) (nI s) p.2 (nI s)) = if T.2 21 κ < 2 then (match (tO T 20 κ).map rp with | none => jt_Mo_obtain_L14 m T (nI K0) (-1) (nI (s + 1)) 0 (nI (s + 1)) | some π => (jt_Mo_contextOf T (nI π)).bind fun p30 => jt_Mo_obtain_L14 m p30.1 (nI K0) (nI π) (nI (s + 1)) p30.2 (nI (s + 1))) else some (T, -8) := by
        rw [Option.bind_some]
        show jt_Mo_obtain_B14 (jt_Mo_obtain_L14 m) T (nI K0) (nI κ) (nI s) (oI none) (nI s) = _
        unfold jt_Mo_obtain_B14
        rw [if_neg (show ¬ (4 : Int32) ≤ nI s from nI_ge (a := s) (b := 4) (by omega) (by decide)), if_neg (show ¬ 0 ≤ oI none by decide), tl_n (by omega) (by decide), Option.bind_some, pky_eq hk e11 hκ, Option.bind_some]
        by_cases hf : T.2 21 κ < 2
        · rw [if_pos hf, if_pos hf]
          cases hπ : (tO T 20 κ).map rp with
          | none =>
            dsimp only
            rw [if_neg (show ¬ 0 ≤ oI none by decide), if_neg (show ¬ 0 ≤ oI none by decide), if_neg (show ¬ 0 ≤ oI none by decide), nI_1]
          | some π =>
            have hπn : π < tN T 11 := by
              cases hq : tO T 20 κ with
              | none => rw [hq] at hπ; cases hπ
              | some q =>
                rw [hq] at hπ
                have lq := hk.2.2.1 κ q hκ hq
                have k4 := (hk.2.2.2.2.1 q (by omega)).1
                have e : rp q = π := Option.some.inj hπ
                omega
            dsimp only
            rw [if_pos (show 0 ≤ oI (some π) from nI_pos' (by omega)), nI_1, show oI (some π) = nI π from rfl]
            congr 1
            funext p30
            rw [if_pos (nI_pos' (n := π) (by omega)), if_pos (nI_pos' (n := π) (by omega))]
        · rw [if_neg hf, if_neg hf]
      by_cases hf : T.2 21 κ < 2
      · have h2 : tV T 21 κ < 2 := by
          rw [t21.1] at hf
          exact (nI_ltI (b := 2) (by omega) (by decide)).mp hf
        rw [if_pos hf]
        rw [if_pos hf] at rE
        rw [y_gR k1 k7, Option.bind_some]
        cases hq20 : tO T 20 κ with
        | none =>
          rw [hq20] at rE
          rw [show Option.map (ab 8) none = none from rfl, if_pos rfl, y_av s1, Option.bind_some]
          have B := build_eq (po := none) hh0 (by omega) hκ hrκ h2 (fun u hu => by cases hu) (by rw [hq20]; rfl) hno
          obtain ⟨y, rr, T', ab', L', O', v', sg', E', p1, p2, p3, p4, p5, p6, p7, p8, p9, p10, p11⟩ := B
          rw [show jf_Sh_build x (A 5) (some (ab 8 κ)) none = some (y, rr) from p1, Option.bind_some]
          refine ⟨y, rr, T', ab', L', O', v', sg', E', rfl, ⟨999, by omega, ?_⟩, p3, by omega, p5, p6, p7, p8, by omega, by omega, p11⟩
          refine rE.trans ?_
          show jt_Mo_obtain_L14 m T (nI K0) (-1) (nI (s + 1)) 0 (nI (s + 1)) = _
          obtain ⟨m, rfl⟩ : ∃ m', m = m' + 1 := ⟨m - 1, by omega⟩
          show jt_Mo_obtain_B14 (jt_Mo_obtain_L14 m) T (nI K0) (-1) (nI (s + 1)) 0 (nI (s + 1)) = _
          unfold jt_Mo_obtain_B14
          rw [if_neg (show ¬ (4 : Int32) ≤ nI (s + 1) from nI_ge (a := s + 1) (b := 4) (by omega) (by decide)), if_pos (show (0 : Int32) ≤ 0 by decide), if_neg (show ¬ (0 : Int32) ≤ -1 by decide), nI_pred, show lpK = 999 + 1 from rfl, L120_eq hk e11 hit (by omega), show jt_Mo_build T (nI κ) (-1) = some (T', rr) from p2, Option.bind_some]
        | some q =>
          rw [hq20] at rE
          have lq := hk.2.2.1 κ q hκ hq20
          have k4q := hk.2.2.2.2.1 q (by omega)
          have eq8 : ab 8 q = ab 8 (rp q) := (hKK.2 q (rp q) (by omega) (by omega)).mpr k4q.2.symm
          have hπ : (tO T 20 κ).map rp = some (rp q) := by rw [hq20]; rfl
          have IH := ih (rp q) (s + 1) nn m x T ab L O v sg E hh0 (by rw [hπ] at hkd'; exact hkd') (itr_s hκ hπ s K0 hit) (by omega) (by omega) (by omega) (by omega)
          obtain ⟨y1, r1, T1, ab1, L1, O1, v1, sg1, E1, p1, ⟨mL, hmL, p2⟩, p3, p4, p5, p6, p7, p8, p9, p10, p11⟩ := IH
          rw [show Option.map (ab 8) (some q) = some (ab 8 q) from rfl, if_neg (fun z => by cases z), Option.bind_some, y_av s1, Option.bind_some, eq8, p1, Option.bind_some]
          dsimp only
          have rE2 : ((some (T, oI none)).bind fun p => jt_Mo_obtain_L14 (m + 1) p.1 (nI K0) (nI κ) (nI s) p.2 (nI s)) = if 0 ≤ r1 then jt_Mo_obtain_L120 mL T1 (nI K0) r1 (nI (s + 1) - 1) else some (T1, r1) := rE.trans p2
          rcases p11 with ⟨c2, rfl, t1, t2, t3, t4⟩ | hneg
          · have hc2 := (p3.lt t1).1
            have h301 := p3.2.1.1.2.2.1.2
            obtain ⟨⟨kn', ⟨-, -, -, -, ⟨u1, u2, u3, u4, u5, u6⟩, -⟩, hR'⟩, ⟨hJ', hw', m2', m7, m9, m10, m11, -⟩, -, -, hCC', -⟩ := id p3.1
            obtain ⟨i10', -, hl'⟩ := hJ'.1 _ _ m10
            have g1 := (hCC'.1 c2 hc2).1.1
            have n11 : tN T1 11 = tN T 11 := p5.n (by decide)
            have B := build_eq (κ := κ) (po := some c2) p3 (by omega) (by omega) hrκ (by unfold tV; rw [t4]; exact h2) (fun u hu => by cases hu; exact t1) (by rw [p5.o (by decide), hπ]; exact congrArg some t2) (fun w hw z => by
              rcases t3 w hw with ⟨s', e⟩ | ⟨w0, z1, z2⟩
              · rw [z] at e
                exact kd_acy 3 s' κ (kd_3 hk hκ hrκ) ⟨hκ, rp q, hπ, e⟩
              · exact hno w0 z1 (by rw [← z2]; exact z))
            rw [p6 κ] at B
            obtain ⟨y, rr, T', ab', L', O', v', sg', E', q1, q2, q3, q4, q5, q6, q7, q8, q9, q10, q11⟩ := B
            rw [if_pos (nI_pos' (by omega)), y_gRs u1 u5, Option.bind_some, y_av i10'.1, Option.bind_some, L_get i10' hl' (by rw [ls_len]; exact hc2), ls_get hc2, Option.bind_some]
            dsimp only
            rw [y_ck g1, Option.bind_some, y_av u1, Option.bind_some, show jf_Sh_build y1 (A 5) (some (ab 8 κ)) (some (ab1 9 c2)) = some (y, rr) from q1, Option.bind_some]
            obtain ⟨mL, rfl⟩ : ∃ m', mL = m' + 1 := ⟨mL - 1, by omega⟩
            refine ⟨y, rr, T', ab', L', O', v', sg', E', rfl, ⟨mL, by omega, ?_⟩, q3, by omega, p5.tr q5, fun i => (q6 i).trans (p6 i), p7.tr q7, by omega, by omega, by omega, ?_⟩
            · rw [rE2, if_pos (nI_pos' (by omega)), nI_pred, L120_eq p3.2.1.2.2.1 p3.2.1.1.2.1.1 (itr_c p5 s K0 κ hit) (by omega), show jt_Mo_build T1 (nI κ) (nI c2) = some (T', rr) from q2, Option.bind_some]
            · rcases q11 with ⟨c, e1, e2, e3, e4, e5⟩ | hn
              · refine Or.inl ⟨c, e1, e2, e3, fun w hw => ?_, e5.trans t4⟩
                rcases e4 w hw with ⟨s', z⟩ | ⟨w0, z1, z2⟩
                · exact Or.inl ⟨s', itr_c' p5 s' κ _ z⟩
                · rcases t3 w0 z1 with ⟨s', z⟩ | ⟨w1, z3, z4⟩
                  · exact Or.inl ⟨s' + 1, hκ, rp q, hπ, by rw [z2]; exact z⟩
                  · exact Or.inr ⟨w1, z3, z2.trans z4⟩
              · exact Or.inr hn
          · rw [if_neg (neg_of hneg)]
            refine ⟨y1, r1, T1, ab1, L1, O1, v1, sg1, E1, rfl, ⟨mL, by omega, ?_⟩, p3, by omega, p5, p6, p7, p8, by omega, by omega, Or.inr hneg⟩
            rw [rE2, if_neg (neg_of hneg), if_neg (neg_of hneg)]
      · rw [if_neg hf]
        rw [if_neg hf] at rE
        exact ⟨x, -8, T, ab, L, O, v, sg, E, rfl, ⟨1000, Nat.le_add_right _ _, by rw [rE, if_neg (show ¬ (0 : Int32) ≤ -8 by decide)]⟩, hh0, by omega, tK.rf T, fun _ => rfl, cFr.rf x, Nat.le_refl _, by omega, by omega, Or.inr (by decide)⟩
end RQ
