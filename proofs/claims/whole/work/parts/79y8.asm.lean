section AT
variable {x y : q_S} {A : Nat → Nat} {T : tT} {E : Nat} {ab : Nat → Nat → Nat} {L : Nat → Option (List Nat)} {O : List Nat} {v sg : Nat → Nat → Int32} {rp : Nat → Nat}
theorem hI_37 {w : Int32} (hh : hI x A ab L O v sg rp T) : hI x A ab L O v sg rp (tp T 37 w) := hh
theorem pI_37 {w : Int32} (hp : pI T E O v sg rp) : pI (tp T 37 w) E O v sg rp := hp
theorem hI_st {k i : Nat} {g : Int32} (hh : hI x A ab L O v sg rp T) : hI x A ab L O v sg rp (tSt T k i g) := hh
theorem pI_st {k i : Nat} {g : Int32} (hp : pI T E O v sg rp) : pI (tSt T k i g) E O v sg rp := hp
theorem Stk_st {k i c0 n : Nat} {g : Int32} (hp : Stk T v c0 n) : Stk (tSt T k i g) v c0 n := hp
theorem nB.tr {k : Nat} {T T' T'' : tT} (h : nB k T T') (g : nB k T' T'') (hn : tN T 23 ≤ tN T' 23) (h31 : ∀ j, j < k → T'.2 31 j = T.2 31 j ∧ T'.2 32 j = T.2 32 j) : nB k T T'' := by
  refine ⟨fun b hb => ⟨(g.1 b (by omega)).1.trans (h.1 b hb).1, (g.1 b (by omega)).2.trans (h.1 b hb).2⟩, fun b j h1 h2 hj => ?_⟩
  by_cases hb : b < tN T' 23
  · have e1 : tV T'' 25 b = tV T' 25 b := by unfold tV; rw [(g.1 b hb).1]
    have e2 : tV T'' 26 b = tV T' 26 b := by unfold tV; rw [(g.1 b hb).2]
    rw [e1, e2]; exact h.2 b j h1 hb hj
  · have e1 : tV T 31 j = tV T' 31 j := by unfold tV; rw [(h31 j hj).1]
    have e2 : tV T 32 j = tV T' 32 j := by unfold tV; rw [(h31 j hj).2]
    rw [e1, e2]; exact g.2 b j (by omega) h2 hj
theorem nB.le {k n : Nat} {T T' : tT} (h : nB n T T') (hk : k ≤ n) : nB k T T' := ⟨h.1, fun b j h1 h2 hj => h.2 b j h1 h2 (by omega)⟩
set_option maxHeartbeats 8000000 in
theorem asm_L {E0 c0 n k c d wa nd : Nat} (hE : E0 + 201 ≤ 1000000000) (hS : SUP A O rp E0 c0 n) (hk : k < 30) (hn : 31 ≤ n + (k + 1)) : ∀ (r i ml m : Nat) (x : q_S) (T : tT) (ab : Nat → Nat → Nat) (L : Nat → Option (List Nat)) (sg : Nat → Nat → Int32) (f : Nat → Int32), i + r = nd → r < ml → hI x A ab L O v sg rp T → pI T (E0 + tN T 23) O v sg rp → c0 < tN T 16 → (∀ h, chn T c0 h → v 1 h = 0) → Stk T v c0 (k + 1) → T.2 33 k = nI i → tV T 31 k = c → tV T 32 k = d → nd = tV T 14 d → hs (T.2 18 (tV T 22 c)) d → (hs (v 2 (tV T 22 c)) d → ∀ b', b' < tN T 23 → ¬ (tV T 25 b' = c ∧ tV T 26 b' = d)) → q_ai x 4 wa = some (nd, f) → (∀ j, j < i → f j = T.2 34 (3 * k + j) ∧ T.2 34 (3 * k + j) = nI (tV T 34 (3 * k + j)) ∧ tV T 34 (3 * k + j) < tN T 23) → (∀ b, b < tN T 23 → ab 13 b ≠ wa) → 4 * (200 - tN T 23) + 4 * (30 - k) + (nd - i) ≤ m → ASMo A O rp v E0 k m (nd - i) wa x T ab (jf_Wo_assemble_L25 (jg_Wo_supplyNeed (n + 1)) ml x (A 4) (some (ab 9 c)) (nI d) (nI k) (some (ab 6 d)) (some wa) (nI i)) := by
  intro r
  induction r with
  | zero =>
    intro i ml m x T ab L sg f hir hml hh hp hc0 hv0 hst h33 h31k h32k hnd hin hun hwa hwv hfr hfu
    obtain ⟨ml, rfl⟩ : ∃ m', ml = m' + 1 := ⟨ml - 1, by omega⟩
    obtain ⟨s1, s2, s3, s4⟩ := id hst
    obtain ⟨a1, a2, a3, a4, a5⟩ := s2 k (by omega)
    have hi : i = nd := by omega
    subst hi
    rw [h31k] at a1 a3 a5
    rw [h32k] at a2 a4 a5
    rw [Nat.sub_self]
    exact asm_end hh hp hE hk s1 a1 a2 h33 hnd (chn_lt hp hc0 a3) a4 hin a5 (hv0 c a3) hun hwa hwv (fun j hj z => by
      have := s3 j k (by omega) (by omega) (by rw [h31k]; exact z.1.symm) (by rw [h32k]; exact z.2.symm)
      omega) (by omega) _ _ _
  | succ r ih =>
    intro i ml m x T ab L sg f hir hml hh hp hc0 hv0 hst h33 h31k h32k hnd hin hun hwa hwv hfr hfu
    obtain ⟨ml, rfl⟩ : ∃ m', ml = m' + 1 := ⟨ml - 1, by omega⟩
    obtain ⟨s1, s2, s3, s4⟩ := id hst
    obtain ⟨a1, a2, a3, a4, a5⟩ := s2 k (by omega)
    rw [h31k] at a1 a3 a5
    rw [h32k] at a2 a4 a5
    have hcn := chn_lt hp hc0 a3
    have h10 := hp.1.1.2
    have h30 := hp.1.2.2.1.2
    have h200 := hp.1.2.2.2.1.2
    have hid : i < tV T 14 d := by omega
    obtain ⟨-, -, -, -, ⟨t14, t14'⟩, tn⟩ := hp.2.1.1 d a4
    obtain ⟨⟨n1, n2⟩, ⟨n3, n4⟩, n5⟩ := tn i hid
    obtain ⟨⟨o1, o2, o3, o4, o5, o6⟩, on⟩ := hh.2.2.1 d a4
    have oi := on i hid
    rw [n1] at oi
    obtain ⟨hJ, hw, -, -, -, -, -, ln, -⟩ := hh.2.1
    have l6 := ln d a4
    obtain ⟨i6, -, hl6⟩ := hJ.1 _ _ l6
    have w1 : q_al x 4 (A 4) = true := by
      obtain ⟨⟨kn, ⟨-, -, -, ⟨w1, -⟩, -⟩, -⟩, -⟩ := id hh
      exact w1
    have hf : tf T 32 = nI (k + 1) := s1
    have fnd := find_eq (l3 := nI (k + 1)) hh hp (jg_Wo_supplyNeed n) oi n2 n5 hcn
    have kbE : kB (jt_Mo_supply_L12 m) T = (jt_Mo_find T (nI c) (nI (tV T 15 (3 * d + i))) (T.2 16 (3 * d + i)) (T.2 17 (3 * d + i))).bind fun p34 => if 0 ≤ p34.2 then (jt_Mo_start p34.1 (tf p34.1 37) p34.2).bind fun p37 => jt_Mo_supply_L12 m p37.1 p37.2 else jt_Mo_supply_L12 m p34.1 p34.2 := by
      unfold kB
      rw [hf, nI_pred, tl_n (t := 32) (by omega) (by decide), Option.bind_some, tl_n (t := 33) (by omega) (by decide), Option.bind_some, a2, tl_n (t := 14) (by omega) (by decide), Option.bind_some, h33, t14, if_neg (nI_ge hid (by omega)), Option.bind_some, tl_n (t := 31) (by omega) (by decide), Option.bind_some, a1, e3i, tl_n (t := 15) (by omega) (by decide), Option.bind_some, tl_n (t := 16) (by omega) (by decide), Option.bind_some, tl_n (t := 17) (by omega) (by decide), Option.bind_some, n1]
    have cE : jf_Wo_assemble_L25 (jg_Wo_supplyNeed (n + 1)) (ml + 1) x (A 4) (some (ab 9 c)) (nI d) (nI k) (some (ab 6 d)) (some wa) (nI i) = (jf_Wo_supplyNeed (jg_Wo_supplyNeed n) x (A 4) (some (ab 9 c)) (some (ab 7 (3 * d + i))) (nI (k + 1))).bind fun p39 => if 0 ≤ p39.2 then (q_sI p39.1 4 (some wa) (nI i) p39.2).bind fun x44 => jf_Wo_assemble_L25 (jg_Wo_supplyNeed (n + 1)) ml x44 (A 4) (some (ab 9 c)) (nI d) (nI k) (some (ab 6 d)) (some wa) (nI (i + 1)) else some (p39.1, p39.2) := by
      show jf_Wo_assemble_B25 (jg_Wo_supplyNeed (n + 1)) (jf_Wo_assemble_L25 (jg_Wo_supplyNeed (n + 1)) ml) x (A 4) (some (ab 9 c)) (nI d) (nI k) (some (ab 6 d)) (some wa) (nI i) = _
      unfold jf_Wo_assemble_B25
      rw [y_len hwa, Option.bind_some, if_neg (nI_ge (a := i) (by omega) (by omega)), y_gRs o1 o6, Option.bind_some, y_av i6.1, Option.bind_some, L_get i6 hl6 (by rw [ls_len]; exact hid), ls_get hid, Option.bind_some]
      dsimp only
      rw [y_ck oi.1, Option.bind_some, y_av w1, Option.bind_some, nI_1, nI_1]
      rfl
    rw [cE]
    rcases fnd with ⟨w, e, he, f1, f2⟩ | ⟨h, d', hh1, hd1, hd2, hQ, f1, f2⟩
    · have hneg : ¬ 0 ≤ e := by rcases he with rfl | rfl <;> decide
      have hlt : e < -1 := by rcases he with rfl | rfl <;> decide
      rw [f2, Option.bind_some]
      dsimp only
      rw [if_neg hneg]
      rw [f1, Option.bind_some] at kbE
      dsimp only at kbE
      rw [if_neg hneg, lp_err hlt (by omega)] at kbE
      have H4 : hI x A ab L O v sg rp (tp T 37 w) := hI_37 hh
      have P4 : pI (tp T 37 w) (E0 + tN T 23) O v sg rp := pI_37 hp
      have k4 : tN (tp T 37 w) 23 = tN T 23 := rfl
      have C4 := tC_tp37 (w := w) T
      have B4 : (tp T 37 w).2 25 = T.2 25 ∧ (tp T 37 w).2 26 = T.2 26 := ⟨rfl, rfl⟩
      generalize tp T 37 w = T4 at kbE H4 P4 k4 C4 B4
      exact ⟨x, e, T4, ab, L, sg, rfl, H4, by rw [k4]; exact P4, C4, by omega, fun _ _ _ _ => rfl, fun _ _ => rfl, fun b h1 h2 => by omega, cFr.rf x, fun a _ h => rfl, ⟨fun b _ => by rw [B4.1, B4.2]; exact ⟨rfl, rfl⟩, fun b j h1 h2 => by omega⟩, Or.inr ⟨hlt, kbE, by omega, by omega⟩⟩
    · have hch : chn T c0 h := hQ (chn T c0) a3 (fun c u q1 q2 => chn_up hp hc0 q1 q2)
      have H4 : hI x A ab L O v sg rp (tp T 37 (nI h)) := hI_37 hh
      have P4 : pI (tp T 37 (nI h)) (E0 + tN T 23) O v sg rp := pI_37 hp
      have k4 : tN (tp T 37 (nI h)) 23 = tN T 23 := rfl
      have C4 := tC_tp37 (w := nI h) T
      have B4 : (tp T 37 (nI h)).2 25 = T.2 25 ∧ (tp T 37 (nI h)).2 26 = T.2 26 := ⟨rfl, rfl⟩
      have S4 : sS (k + 1) T (tp T 37 (nI h)) := sS_of rfl rfl rfl rfl rfl
      have g4 : tf (tp T 37 (nI h)) 37 = nI h := rfl
      have R4 : (tp T 37 (nI h)).2 31 = T.2 31 ∧ (tp T 37 (nI h)).2 32 = T.2 32 ∧ (tp T 37 (nI h)).2 34 = T.2 34 := ⟨rfl, rfl, rfl⟩
      rw [f1, Option.bind_some] at kbE
      dsimp only at kbE
      rw [if_pos (nI_pos' (by omega)), g4] at kbE
      generalize tp T 37 (nI h) = T4 at kbE H4 P4 k4 C4 B4 S4 g4 R4
      have n16 : tN T4 16 = tN T 16 := C4.n (by decide)
      have n2' : tN T4 2 = tN T 2 := C4.n (by decide)
      obtain ⟨T1, g, e1, SO⟩ := hS (k + 1) m x T4 ab L v sg h d' H4 (by rw [k4]; exact P4) (by omega) (hst.fr C4 S4) (C4.ch.mpr hch) (fun h' z => hv0 h' (C4.ch.mp z)) (by omega) (by rw [C4.v (t := 22) (by decide), C4.2 18 (by decide)]; exact hd2) hn (by omega) (by omega)
      rw [e1, Option.bind_some] at kbE
      dsimp only at kbE
      rw [f2]
      obtain ⟨y1, r1, T2, ab', L', sg', q1, q2, q3, q4, q5, q6, q7, q8, q9, q10, q11, q12⟩ := SO
      rw [q1, Option.bind_some, Option.bind_some]
      dsimp only
      have C2 := C4.tr q4
      have m200 := q3.1.2.2.2.1.2
      rcases q12 with ⟨b, m', rfl, hb, z1, z2, z3, z4, z5⟩ | ⟨hlt, z1, z2, z3⟩
      · have hz3 := z3
        obtain ⟨z31, z32, z33⟩ := z3
        have sS4 := S4.tr hz3
        have hwa1 : q_ai y1 4 wa = some (nd, f) := by rw [q10 wa (by rw [hwa]; exact fun h => nomatch h)]; exact hwa
        have hwlt : wa < q_sz x := Nat.lt_of_not_le (fun z => by rw [(hw.2.2.1 4 wa z).1] at hwa; cases hwa)
        have hfr1 : ∀ b, b < tN T2 23 → ab' 13 b ≠ wa := fun b hb => by
          by_cases hbo : b < tN T 23
          · rw [q7 b (by omega)]; exact hfr b hbo
          · have := q8 b (by omega) hb; omega
        rw [if_pos (nI_pos' (by omega)), y_sI hwa1 (show i < nd by omega) (by omega), Option.bind_some]
        have u := uI_of y1 4 wa nd (upd f i (nI b))
        generalize q_putI y1 4 wa nd (upd f i (nI b)) = y2 at u ⊢
        have H2 := hI_wr q2 hfr1 (by rw [hwa1]; exact fun h => nomatch h) u
        obtain ⟨m'', rfl⟩ : ∃ m'', m' = m'' + 1 := ⟨m' - 1, by omega⟩
        have s32 : T2.1 32 = nI (k + 1) := z31.trans (S4.1.trans s1)
        have s33 : T2.2 33 k = nI i := by rw [(z32 k (by omega)).2.2, (S4.2.1 k (by omega)).2.2]; exact h33
        rw [z1, L12_pos s32 (by omega) s33 (by omega) (by omega)] at kbE
        have H5 : hI y2 A ab' L' O v sg' rp (tSt T2 k i (nI b)) := hI_st H2
        have P5 : pI (tSt T2 k i (nI b)) (E0 + tN T2 23) O v sg' rp := pI_st q3
        have K5 : Stk (tSt T2 k i (nI b)) v c0 (k + 1) := Stk_st (hst.fr C2 sS4)
        have C5 := C2.tr (tC_st (k := k) (i := i) (g := nI b) T2)
        have k5 : tN (tSt T2 k i (nI b)) 23 = tN T2 23 := rfl
        have r33 : (tSt T2 k i (nI b)).2 33 = upd (T2.2 33) k (nI (i + 1)) := rfl
        have r34 : (tSt T2 k i (nI b)).2 34 = upd (T2.2 34) (3 * k + i) (nI b) := rfl
        have r31 : (tSt T2 k i (nI b)).2 31 = T2.2 31 ∧ (tSt T2 k i (nI b)).2 32 = T2.2 32 ∧ (tSt T2 k i (nI b)).2 25 = T2.2 25 ∧ (tSt T2 k i (nI b)).2 26 = T2.2 26 := ⟨rfl, rfl, rfl, rfl⟩
        generalize tSt T2 k i (nI b) = T5 at kbE H5 P5 K5 C5 k5 r33 r34 r31
        have v31 : tV T5 31 k = c := by unfold tV; rw [r31.1, (sS4.2.1 k (by omega)).1]; exact h31k
        have v32 : tV T5 32 k = d := by unfold tV; rw [r31.2.1, (sS4.2.1 k (by omega)).2.1]; exact h32k
        have B2 : nB (k + 1) T T2 := by
          refine ⟨fun b hb => ?_, fun b j h1 h2 hj => ?_⟩
          · have := q11.1 b (by omega)
            rw [this.1, this.2, B4.1, B4.2]; exact ⟨rfl, rfl⟩
          · have := q11.2 b j (by omega) h2 hj
            unfold tV at this ⊢
            rw [R4.1, R4.2.1] at this
            exact this
        have B5 : nB (k + 1) T T5 := by
          refine ⟨fun b hb => by rw [r31.2.2.1, r31.2.2.2]; exact B2.1 b hb, fun b j h1 h2 hj => ?_⟩
          have := B2.2 b j h1 (by omega) hj
          unfold tV at this ⊢
          rw [r31.2.2.1, r31.2.2.2]
          exact this
        have E5 : sE k T T5 := by
          refine ⟨fun j hj => ?_, fun j hj => ?_⟩
          · rw [r31.1, r31.2.1, r33, upd_n (by omega)]
            exact sS4.2.1 j (by omega)
          · rw [r34, upd_n (by omega)]
            exact sS4.2.2 j (by omega)
        have e14 : tV T5 14 d = tV T 14 d := C5.v (by decide) d
        have ihh := ih (i + 1) ml m'' y2 T5 ab' L' sg' (upd f i (nI b)) (by omega) (by omega) H5 (by rw [k5]; exact P5) (by rw [C5.n (by decide)]; exact hc0) (fun h' z => hv0 h' (C5.ch.mp z)) K5 (by rw [r33, upd_s]) v31 v32 (by rw [e14]; exact hnd) (by rw [C5.v (t := 22) (by decide), C5.2 18 (by decide)]; exact hin) (fun z b' hb' => by
          rw [C5.v (t := 22) (by decide)] at z
          by_cases hbo : b' < tN T 23
          · have := B5.1 b' hbo
            unfold tV
            rw [this.1, this.2]
            exact hun z b' hbo
          · have := B5.2 b' k (by omega) hb' (by omega)
            rw [h31k, h32k] at this
            exact this) (by rw [u.2.2.2.2.2.2, if_pos ⟨rfl, rfl⟩]) (fun j hj => by
          unfold tV
          rw [r34]
          by_cases hji : j = i
          · subst hji
            rw [upd_s, upd_s, nI_clamp (by omega)]
            exact ⟨rfl, rfl, by omega⟩
          · rw [upd_n hji, upd_n (by omega), sS4.2.2 (3 * k + j) (by omega)]
            obtain ⟨g1, g2, g3⟩ := hwv j (by omega)
            exact ⟨g1, g2, by
              have : tV T 34 (3 * k + j) < tN T 23 := g3
              have h' : (T.2 34 (3 * k + j)).toNatClampNeg < tN T 23 := this
              omega⟩) (fun b hb => hfr1 b (by omega)) (by omega)
        rw [q6 9 c (by decide) (by decide), q6 6 d (by decide) (by decide)] at ihh
        obtain ⟨y, rr, T6, ab6, L6, sg6, p1, p2, p3, p4, p5, p6, p7, p8, p9, p10, p11, p12⟩ := ihh
        have fr2 : ∀ a, a ≠ wa → q_ai y1 4 a ≠ none → q_ai y2 4 a ≠ none ∧ q_ai y2 4 a = q_ai y1 4 a := fun a ha hn => by
          have e : q_ai y2 4 a = q_ai y1 4 a := by rw [u.2.2.2.2.2.2, if_neg (fun z => ha z.2)]
          exact ⟨by rw [e]; exact hn, e⟩
        have usz : q_sz y2 = q_sz y1 := u.1
        have usl : q_sl y2 = q_sl y1 := u.2.1
        have q9s := q9.2.2.2.2.1
        refine ⟨y, rr, T6, ab6, L6, sg6, p1, p2, p3, C5.tr p4, by omega, fun c' i' h1 h2 => (p6 c' i' h1 h2).trans (q6 c' i' h1 h2), fun b hb => (p7 b (by omega)).trans (q7 b (by omega)), fun b h1 h2 => ?_, (q9.tr (cFr_uI u (by decide))).tr p9, fun a ha hn => ?_, (B5.le (by omega)).tr p11 (by omega) (fun j hj => ⟨(E5.1 j hj).1, (E5.1 j hj).2.1⟩), ?_⟩
        · by_cases hb5 : b < tN T5 23
          · rw [p7 b hb5]
            exact Or.inl (q8 b (by omega) (by omega))
          · rcases p8 b (by omega) h2 with z | z
            · exact Or.inl (by omega)
            · exact Or.inr z
        · have h1 : q_ai y1 4 a = q_ai x 4 a := q10 a hn
          have h2 := fr2 a ha (by rw [h1]; exact hn)
          rw [p10 a ha h2.1, h2.2, h1]
        · rcases p12 with ⟨b6, m6, t1, t2, t3, t4, t5, t6, t7, t8, t9⟩ | ⟨t1, t2, t3, t4⟩
          · refine Or.inl ⟨b6, m6, t1, t2, kbE.trans t3, by omega, by omega, t6, E5.tr t7, by omega, by omega⟩
          · refine Or.inr ⟨t1, kbE.trans t2, by omega, by omega⟩
      · rw [if_neg (fun z => by
          rw [Int32.le_iff_toInt_le] at z
          rw [Int32.lt_iff_toInt_lt] at hlt
          have e1 : (-1 : Int32).toInt = -1 := by decide
          have e2 : (0 : Int32).toInt = 0 := by decide
          omega)]
        refine ⟨y1, r1, T2, ab', L', sg', rfl, q2, q3, C2, by omega, q6, fun b hb => q7 b (by omega), fun b h1 h2 => Or.inl (q8 b (by omega) h2), q9, fun a _ hn => q10 a hn, ?_, Or.inr ⟨hlt, kbE.trans z1, by omega, by omega⟩⟩
        refine ⟨fun b hb => ?_, fun b j h1 h2 hj => ?_⟩
        · have := q11.1 b (by omega)
          rw [this.1, this.2, B4.1, B4.2]; exact ⟨rfl, rfl⟩
        · have := q11.2 b j (by omega) h2 (by omega)
          unfold tV at this ⊢
          rw [R4.1, R4.2.1] at this
          exact this
end AT
