/-! A bean is put together: the class's loop over the needs beside the reference's turns. -/
def kB (rc : tT → Int32 → Option (tT × Int32)) (T : tT) : Option (tT × Int32) :=
        (tl T 32 32 ((tf T 32) - 1)).bind fun v7 =>
        (tl T 33 32 ((tf T 32) - 1)).bind fun v9 =>
        (tl T 14 10 v7).bind fun v11 =>
        if v11 ≤ v9 then
          (tl T 11 10 v7).bind fun v13 =>
          if (v13 &&& 8) = 0 then
            (tl T 31 32 ((tf T 32) - 1)).bind fun v15 =>
            (jt_Mo_make T v15 v7 ((tf T 32) - 1)).bind fun p17 =>
            (tpi p17.1 32 ((tf p17.1 32) - 1)).bind fun T20 =>
            rc T20 p17.2
          else
            some (T, (-6))
        else
          (tl T 33 32 ((tf T 32) - 1)).bind fun v24 =>
          (tl T 31 32 ((tf T 32) - 1)).bind fun v26 =>
          (tl T 15 30 (((3 : Int32) * v7) + v24)).bind fun v28 =>
          (tl T 16 30 (((3 : Int32) * v7) + v24)).bind fun v30 =>
          (tl T 17 30 (((3 : Int32) * v7) + v24)).bind fun v32 =>
          (jt_Mo_find T v26 v28 v30 v32).bind fun p34 =>
          if 0 ≤ p34.2 then
            (jt_Mo_start p34.1 (tf p34.1 37) p34.2).bind fun p37 =>
            rc p37.1 p37.2
          else
            rc p34.1 p34.2
/-- a part given -/
def tSt (T : tT) (k i : Nat) (g : Int32) : tT := tset (tset T 34 (upd (T.2 34) (3 * k + i) g)) 33 (upd (T.2 33) k (nI (i + 1)))
theorem e3i (a b : Nat) : (3 : Int32) * nI a + nI b = nI (3 * a + b) := by
  rw [← nI_add]
  exact congrArg (· + nI b) (Int32.ofNat_mul 3 a).symm
section AS
variable {x y : q_S} {A : Nat → Nat} {T : tT} {E : Nat} {ab : Nat → Nat → Nat} {L : Nat → Option (List Nat)} {O : List Nat} {v sg : Nat → Nat → Int32} {rp : Nat → Nat}
theorem L12_neg {k m : Nat} (h : T.1 32 = nI (k + 1)) (hk : k < 1000) : jt_Mo_supply_L12 (m + 1) T (-1) = kB (jt_Mo_supply_L12 m) T := by
  show jt_Mo_supply_B12 (jt_Mo_supply_L12 m) T (-1) = _
  unfold jt_Mo_supply_B12
  rw [if_neg (show ¬ tf T 32 ≤ 0 from by rw [show tf T 32 = nI (k + 1) from h]; exact nI_nle (by omega) (by omega)), if_pos (by decide), if_pos (by decide)]
  rfl
theorem L12_pos {k m i b : Nat} (h : T.1 32 = nI (k + 1)) (hk : k < 32) (h33 : T.2 33 k = nI i) (hi : i < 3) (hb : b < 2 ^ 31) : jt_Mo_supply_L12 (m + 1) T (nI b) = kB (jt_Mo_supply_L12 m) (tSt T k i (nI b)) := by
  have hf : tf T 32 = nI (k + 1) := h
  have hf2 : tf (tSt T k i (nI b)) 32 = nI (k + 1) := h
  show jt_Mo_supply_B12 (jt_Mo_supply_L12 m) T (nI b) = _
  unfold jt_Mo_supply_B12
  rw [if_neg (show ¬ tf T 32 ≤ 0 from by rw [hf]; exact nI_nle (by omega) (by omega)), if_pos (show (-1 : Int32) ≤ nI b from by
    have := nI_pos' (n := b) hb
    rw [Int32.le_iff_toInt_le] at this ⊢
    have e1 : (-1 : Int32).toInt = -1 := by decide
    have e2 : (0 : Int32).toInt = 0 := by decide
    omega), if_neg (nI_pos hb)]
  rw [hf, nI_pred, tl_n (t := 33) (by omega) (by decide), Option.bind_some, h33, e3i, tw_n (t := 34) (by omega) (by decide), Option.bind_some, show tl (tset T 34 (upd (T.2 34) (3 * k + i) (nI b))) 33 32 (nI k) = some (nI i) from by rw [tl_n (t := 33) (by omega) (by decide)]; exact congrArg some h33, Option.bind_some, tw_n (t := 33) (by omega) (by decide), Option.bind_some, nI_1]
  unfold kB
  rw [hf2, nI_pred]
  rfl
theorem hI_wr {wa n : Nat} {g : Nat → Int32} (hh : hI x A ab L O v sg rp T) (hf : ∀ b, b < tN T 23 → ab 13 b ≠ wa) (hn : q_ai x 4 wa ≠ none) (u : uI x y 4 wa n g) : hI y A ab L O v sg rp T := by
  obtain ⟨⟨kn, hS, hR⟩, ⟨hJ, hw, l2, l7, l9, l10, l11, ln, li⟩, hDD, hKK, hCC, hBB⟩ := hh
  have U : ∀ c a, un x y c a := fun c a => un_uI u
  have ai : ∀ t a, ¬ (t = 4 ∧ a = wa) → q_ai y t a = q_ai x t a := fun t a h => by rw [u.2.2.2.2.2.2, if_neg h]
  exact ⟨⟨kn, hS.fu (U _ _) (U _ _) (U _ _) (U _ _) (U _ _) (ai _ _ (fun z => by cases z.1)) (ai _ _ (fun z => by cases z.1)), hR⟩, ⟨jL_uI hJ u, wf_uI hw u hn, l2, l7, l9, l10, l11, ln, li⟩, fun i hi => ⟨(hDD i hi).1.fr (U 6 _), fun k hk => ((hDD i hi).2 k hk).fr (U 7 _)⟩, ⟨fun j hj => (hKK.1 j hj).fr (U 8 _), hKK.2⟩, ⟨fun c' hc' => ⟨(hCC.1 c' hc').1.fr (U 9 _), by rw [ai 2 _ (fun z => by cases z.1)]; exact (hCC.1 c' hc').2⟩, hCC.2⟩, ⟨fun b hb => ⟨(hBB.1 b hb).1.fr (U 10 _), by rw [ai 4 _ (fun z => hf b hb z.2)]; exact (hBB.1 b hb).2⟩, hBB.2⟩⟩
def SUP (A : Nat → Nat) (O : List Nat) (rp : Nat → Nat) (E0 c0 n : Nat) : Prop := ∀ (k m : Nat) (x : q_S) (T : tT) (ab : Nat → Nat → Nat) (L : Nat → Option (List Nat)) (v sg : Nat → Nat → Int32) (c d : Nat), hI x A ab L O v sg rp T → pI T (E0 + tN T 23) O v sg rp → c0 < tN T 16 → Stk T v c0 k → chn T c0 c → (∀ h, chn T c0 h → v 1 h = 0) → d < tN T 2 → hs (T.2 18 (tV T 22 c)) d → 31 ≤ n + k → k ≤ 30 → 4 * (200 - tN T 23) + 4 * (31 - k) ≤ m → ∃ T1 g, jt_Mo_start T (nI c) (nI d) = some (T1, g) ∧ SUPo A O rp v E0 k m x T T1 g ab (jf_Wo_supply (jg_Wo_supplyNeed n) x (A 4) (some (ab 9 c)) (nI d) (nI k))
/-- entries below k are as before -/
def sE (k : Nat) (T T' : tT) : Prop := (∀ j, j < k → T'.2 31 j = T.2 31 j ∧ T'.2 32 j = T.2 32 j ∧ T'.2 33 j = T.2 33 j) ∧ ∀ j, j < 3 * k → T'.2 34 j = T.2 34 j
theorem sE.rf (k : Nat) (T : tT) : sE k T T := ⟨fun _ _ => ⟨rfl, rfl, rfl⟩, fun _ _ => rfl⟩
theorem sE.tr {k : Nat} {T T' T'' : tT} (h : sE k T T') (g : sE k T' T'') : sE k T T'' := ⟨fun j hj => ⟨(g.1 j hj).1.trans (h.1 j hj).1, (g.1 j hj).2.1.trans (h.1 j hj).2.1, (g.1 j hj).2.2.trans (h.1 j hj).2.2⟩, fun j hj => (g.2 j hj).trans (h.2 j hj)⟩
def ASMo (A : Nat → Nat) (O : List Nat) (rp : Nat → Nat) (v : Nat → Nat → Int32) (E0 k m e wa : Nat) (x : q_S) (T : tT) (ab : Nat → Nat → Nat) (o : Option (q_S × Int32)) : Prop :=
  ∃ y r T2 ab' L' sg', o = some (y, r) ∧ hI y A ab' L' O v sg' rp T2 ∧ pI T2 (E0 + tN T2 23) O v sg' rp ∧ tC T T2 ∧ tN T 23 ≤ tN T2 23 ∧ (∀ c i, c ≠ 10 → c ≠ 13 → ab' c i = ab c i) ∧ (∀ b, b < tN T 23 → ab' 13 b = ab 13 b) ∧ (∀ b, tN T 23 ≤ b → b < tN T2 23 → q_sz x ≤ ab' 13 b ∨ ab' 13 b = wa) ∧ cFr x y ∧ (∀ a, a ≠ wa → q_ai x 4 a ≠ none → q_ai y 4 a = q_ai x 4 a) ∧ nB k T T2 ∧ ((∃ b m', r = nI b ∧ b < tN T2 23 ∧ kB (jt_Mo_supply_L12 m) T = jt_Mo_supply_L12 m' T2 r ∧ tN T 23 + 1 ≤ tN T2 23 ∧ m ≤ m' + e + 4 * (tN T2 23 - 1 - tN T 23) ∧ T2.1 32 = nI k ∧ sE k T T2 ∧ q_sz y + 3 * tN T 23 + 1 ≤ q_sz x + 3 * tN T2 23 ∧ q_sl y + 2000 * tN T 23 + 3 ≤ q_sl x + 2000 * tN T2 23) ∨ (r < -1 ∧ kB (jt_Mo_supply_L12 m) T = some (T2, r) ∧ q_sz y + 3 * tN T 23 ≤ q_sz x + 3 * tN T2 23 + 2 * (31 - k) ∧ q_sl y + 2000 * tN T 23 ≤ q_sl x + 2000 * tN T2 23 + 20 * (31 - k)))
theorem tC_tp37 {w : Int32} (T : tT) : tC T (tp T 37 w) := ⟨fun k hk => by
  simp only [List.contains_cons, List.contains_nil, Bool.or_eq_false_iff, beq_eq_false_iff_ne, ne_eq] at hk
  exact if_neg hk.2.2.1, fun _ _ => rfl⟩
theorem tC_tp32 {w : Int32} (T : tT) : tC T (tp T 32 w) := ⟨fun k hk => by
  simp only [List.contains_cons, List.contains_nil, Bool.or_eq_false_iff, beq_eq_false_iff_ne, ne_eq] at hk
  exact if_neg hk.2.1, fun _ _ => rfl⟩
theorem tC_st {k i : Nat} {g : Int32} (T : tT) : tC T (tSt T k i g) := ⟨fun _ _ => rfl, fun t ht => by
  simp only [List.contains_cons, List.contains_nil, Bool.or_eq_false_iff, beq_eq_false_iff_ne, ne_eq] at ht
  show (if t = 33 then _ else if t = 34 then _ else T.2 t) = T.2 t
  rw [if_neg ht.2.2.2.2.2.2.1, if_neg ht.2.2.2.2.2.2.2.1]⟩
theorem hI_32 {w : Int32} (hh : hI x A ab L O v sg rp T) : hI x A ab L O v sg rp (tp T 32 w) := hh
theorem pI_32 {w : Int32} (hp : pI T E O v sg rp) : pI (tp T 32 w) E O v sg rp := hp
set_option maxHeartbeats 4000000 in
/-- the last turn: the bean itself -/
theorem asm_end {E0 k m c d wa nd : Nat} {f : Nat → Int32} (hh : hI x A ab L O v sg rp T) (hp : pI T (E0 + tN T 23) O v sg rp) (hE : E0 + 201 ≤ 1000000000) (hk : k < 30) (h32 : T.1 32 = nI (k + 1)) (h31k : T.2 31 k = nI c) (h32k : T.2 32 k = nI d) (h33 : T.2 33 k = nI nd) (hnd : nd = tV T 14 d) (hc : c < tN T 16) (hd : d < tN T 2) (hin : hs (T.2 18 (tV T 22 c)) d) (hm : ¬ hs (T.2 19 (tV T 22 c)) d) (hv : v 1 c = 0) (hun : hs (v 2 (tV T 22 c)) d → ∀ b', b' < tN T 23 → ¬ (tV T 25 b' = c ∧ tV T 26 b' = d)) (hwa : q_ai x 4 wa = some (nd, f)) (hwv : ∀ j, j < nd → f j = T.2 34 (3 * k + j) ∧ T.2 34 (3 * k + j) = nI (tV T 34 (3 * k + j)) ∧ tV T 34 (3 * k + j) < tN T 23) (hst : ∀ j, j < k → ¬ (c = tV T 31 j ∧ d = tV T 32 j)) (hm0 : 0 < m) (rcS : q_S → Nat → Option Nat → Option Nat → Int32 → Option (q_S × Int32)) (rc : q_S → Nat → Option Nat → Int32 → Int32 → Option Nat → Option Nat → Int32 → Option (q_S × Int32)) (l3 : Int32) : ASMo A O rp v E0 k m 0 wa x T ab (jf_Wo_assemble_B25 rcS rc x (A 4) (some (ab 9 c)) (nI d) l3 (some (ab 6 d)) (some wa) (nI nd)) := by
  have hh0 := hh
  have h10 := hp.1.1.2
  have h30 := hp.1.2.2.1.2
  have h200 := hp.1.2.2.2.1.2
  have e38 := hp.1.2.2.2.2.2.2.1
  have h14 := (hp.2.1.1 d hd).2.2.2.2.1
  have hJ := hh.2.1.1
  have hw := hh.2.1.2.1
  obtain ⟨o1, o2, o3, -⟩ := (hh.2.2.1 d hd).1
  have hf : tf T 32 = nI (k + 1) := h32
  unfold jf_Wo_assemble_B25
  rw [y_len hwa, Option.bind_some, if_pos (nI_le (Nat.le_refl nd) (by omega)), y_gI o1 o3, Option.bind_some]
  have kbE : kB (jt_Mo_supply_L12 m) T = if (T.2 11 d &&& 8) = 0 then (jt_Mo_make T (nI c) (nI d) (nI k)).bind fun p17 => (tpi p17.1 32 ((tf p17.1 32) - 1)).bind fun T20 => jt_Mo_supply_L12 m T20 p17.2 else some (T, (-6)) := by
    unfold kB
    rw [hf, nI_pred, tl_n (t := 32) (by omega) (by decide), Option.bind_some, tl_n (t := 33) (by omega) (by decide), Option.bind_some, h32k, tl_n (t := 14) (by omega) (by decide), Option.bind_some, h33, h14.1, ← hnd, if_pos (nI_le (Nat.le_refl nd) (by omega)), tl_n (t := 11) (by omega) (by decide), Option.bind_some, tl_n (t := 31) (by omega) (by decide), Option.bind_some, h31k]
  by_cases h8 : T.2 11 d &&& 8 = 0
  · rw [if_pos h8]
    rw [if_pos h8] at kbE
    have hnO : ∃ x33, q_nO x 10 jdv_10 = some x33 ∧ uN x x33 10 jdv_10 := ⟨_, rfl, ⟨rfl, rfl, rfl, rfl, rfl, fun _ _ => rfl, fun _ _ _ => rfl⟩⟩
    obtain ⟨x33, e33, u33⟩ := hnO
    have w33 := wf_uN hw u33
    have J33 := jL_uN hJ u33 (by decide)
    have al33 : q_al x33 10 (q_sz x) = true := by rw [u33.2.2.2.2.2.1, if_pos ⟨rfl, rfl⟩]
    obtain ⟨y1, b1, b2, b3, b4, b5, b6, b7, b8, b9, f0, f1, f2, f3, f4⟩ := bi_eq (d := nI d) (h := ab 9 c) (mk := 0) (w := wa) al33 (Or.inl rfl) J33 w33
    have U : ∀ c' a, q_al x c' a = true → un x y1 c' a := fun c' a h => by
      have hn : ¬ (c' = 10 ∧ a = q_sz x) := fun z => by have := al_lt hw h; omega
      exact (un_uN u33 hn).tr (b9 c' a hn)
    have AI : q_ai y1 = q_ai x := by rw [b3, u33.2.2.1]
    have H1 : hI y1 A ab L O v sg rp T := hI_fr hh0 b6 b7 (fun c' a _ h => U c' a h) (fun t a _ => by rw [AI])
    have F1 : cFr x y1 := (cFr_uN u33 (by decide)).tr b8
    have sz1 : q_sz y1 = q_sz x + 1 := by rw [b4, u33.1]
    have sl1 : q_sl y1 = q_sl x + 7 := by rw [b5, u33.2.1]; rfl
    have d4 : ∀ j, q_fd x33 10 j (q_sz x) = jdv_10.getD j .null := fun j => by rw [u33.2.2.2.2.2.2, if_pos ⟨rfl, rfl⟩]
    have ob : oB y1 (q_sz x) (nI d) (ab 9 c) 0 wa 0 0 0 := ⟨by rw [b2]; exact al33, f0, f1, f2, f3, by rw [f4 4 (by decide), d4]; rfl, by rw [f4 5 (by decide), d4]; rfl, by rw [f4 6 (by decide), d4]; rfl⟩
    have w4 : q_al y1 4 (A 4) = true := by
      obtain ⟨⟨kn, ⟨-, -, -, ⟨w1, -⟩, -⟩, -⟩, -⟩ := H1
      exact w1
    rw [e33, Option.bind_some, b1, Option.bind_some]
    dsimp only
    rw [y_av w4, Option.bind_some]
    by_cases hfull : tN T 23 = 200
    · have em : jt_Mo_make T (nI c) (nI d) (nI k) = some (T, -7) := by
        unfold jt_Mo_make
        rw [show tf T 23 = nI (tN T 23) from hp.1.2.2.2.1.1, hfull, if_pos (show nI 200 = 200 from rfl)]
      rw [em, Option.bind_some] at kbE
      dsimp only [tpi] at kbE
      rw [Option.bind_some, lp_err (by decide) hm0] at kbE
      rw [keep_full H1 hfull, Option.bind_some]
      have H4 : hI y1 A ab L O v sg rp (tp T 32 (tf T 32 - 1)) := hI_32 H1
      have P4 : pI (tp T 32 (tf T 32 - 1)) (E0 + tN T 23) O v sg rp := pI_32 hp
      have k4 : tN (tp T 32 (tf T 32 - 1)) 23 = tN T 23 := rfl
      have C4 := tC_tp32 (w := tf T 32 - 1) T
      have B4 : (tp T 32 (tf T 32 - 1)).2 25 = T.2 25 ∧ (tp T 32 (tf T 32 - 1)).2 26 = T.2 26 := ⟨rfl, rfl⟩
      generalize tp T 32 (tf T 32 - 1) = T4 at kbE H4 P4 k4 C4 B4
      exact ⟨y1, -7, T4, ab, L, sg, rfl, H4, by rw [k4]; exact P4, C4, by omega, fun _ _ _ _ => rfl, fun _ _ => rfl, fun b h1 h2 => by omega, F1, fun a _ h => by rw [AI], ⟨fun b _ => by rw [B4.1, B4.2]; exact ⟨rfl, rfl⟩, fun b j h1 h2 => by omega⟩, Or.inr ⟨by decide, kbE, by omega, by omega⟩⟩
    · have hb2 : tN T 23 < 200 := by omega
      have hw' : ∃ f', q_ai y1 4 wa = some (if (0 : Int32) = 0 then tV T 14 d else 0, f') ∧ ∀ j, j < (if (0 : Int32) = 0 then tV T 14 d else 0) → f' j = (fun j => if j < tV T 14 d then T.2 34 (3 * k + j) else -1) j := by
        rw [if_pos i00, ← hnd]
        refine ⟨f, by rw [AI]; exact hwa, fun j hj => ?_⟩
        dsimp only
        rw [if_pos hj]
        exact (hwv j hj).1
      obtain ⟨y, L', sg', q1, q2, q3, q4, q5, q6, q7⟩ := keep_eq (w := fun j => if j < tV T 14 d then T.2 34 (3 * k + j) else -1) H1 hp (by omega) hc hd ob hw' (fun b' hb' => b_fr hh0 hb') hb2
      have em := make_eq (c := c) (d := d) (lv := nI k) (mk := 0) (w := fun j => if j < tV T 14 d then T.2 34 (3 * k + j) else -1) hp.1.2.2.2.1.1 hb2 (by omega) e38.1 (by omega) (Or.inr ⟨nI_pos' (by omega), rfl⟩) (Or.inr ⟨k, rfl, by omega, h14.1, h14.2, fun _ => rfl⟩)
      have P := pI_bn (z := (64 : Int32) * 1 + nI d) (w := fun j => if j < tV T 14 d then T.2 34 (3 * k + j) else -1) (go := fun j => if j < tV T 14 d then some (tV T 34 (3 * k + j)) else none) hp (by omega) rfl hb2 hc hd (Or.inl rfl) hv hin ⟨fun z => absurd z (by decide), fun z => absurd z hm⟩ (fun j _ => by
        rw [if_pos i00]
        by_cases hj : j < tV T 14 d
        · rw [if_pos hj, if_pos hj]
          obtain ⟨-, g1, g2⟩ := hwv j (by omega)
          exact ⟨g1, fun g hg => by rw [← Option.some.inj hg]; exact g2, ⟨(fun z => by cases z), fun z => by omega⟩⟩
        · rw [if_neg hj, if_neg hj]
          exact ⟨rfl, (fun g z => by cases z), ⟨fun _ => by omega, fun _ => rfl⟩⟩) hun q3
      obtain ⟨c1, c2, c3, c4, c5, c6⟩ := tC_bn (T := T) (b := tN T 23) (c := nI c) (d := nI d) (mk := 0) (w := fun j => if j < tV T 14 d then T.2 34 (3 * k + j) else -1) (z := (64 : Int32) * 1 + nI d)
      have e23 : tN (tNote (tBn T (tN T 23) (nI c) (nI d) 0 (fun j => if j < tV T 14 d then T.2 34 (3 * k + j) else -1)) ((64 : Int32) * 1 + nI d)) 23 = tN T 23 + 1 := nI_clamp (n := tN T 23 + 1) (by omega)
      have n25 : ∀ b, b < tN T 23 → (tNote (tBn T (tN T 23) (nI c) (nI d) 0 (fun j => if j < tV T 14 d then T.2 34 (3 * k + j) else -1)) ((64 : Int32) * 1 + nI d)).2 25 b = T.2 25 b ∧ (tNote (tBn T (tN T 23) (nI c) (nI d) 0 (fun j => if j < tV T 14 d then T.2 34 (3 * k + j) else -1)) ((64 : Int32) * 1 + nI d)).2 26 b = T.2 26 b := fun b hb => ⟨upd_n (by omega), upd_n (by omega)⟩
      have m25 : tV (tNote (tBn T (tN T 23) (nI c) (nI d) 0 (fun j => if j < tV T 14 d then T.2 34 (3 * k + j) else -1)) ((64 : Int32) * 1 + nI d)) 25 (tN T 23) = c := by
        show (upd (T.2 25) (tN T 23) (nI c) (tN T 23)).toNatClampNeg = c
        rw [upd_s, nI_clamp (by omega)]
      have m26 : tV (tNote (tBn T (tN T 23) (nI c) (nI d) 0 (fun j => if j < tV T 14 d then T.2 34 (3 * k + j) else -1)) ((64 : Int32) * 1 + nI d)) 26 (tN T 23) = d := by
        show (upd (T.2 26) (tN T 23) (nI d) (tN T 23)).toNatClampNeg = d
        rw [upd_s, nI_clamp (by omega)]
      rw [em, Option.bind_some] at kbE
      generalize tNote (tBn T (tN T 23) (nI c) (nI d) 0 (fun j => if j < tV T 14 d then T.2 34 (3 * k + j) else -1)) ((64 : Int32) * 1 + nI d) = T3 at q2 P c1 c2 c3 c4 c5 c6 e23 n25 m25 m26 kbE
      have f3' : tf T3 32 = nI (k + 1) := c2.trans h32
      dsimp only [tpi] at kbE
      rw [f3', nI_pred, Option.bind_some] at kbE
      rw [q1, Option.bind_some]
      have H4 : hI y A (adb (adb ab 10 (tN T 23) (q_sz x)) 13 (tN T 23) wa) L' O v sg' rp (tp T3 32 (nI k)) := hI_32 q2
      have P4 : pI (tp T3 32 (nI k)) (E0 + tN T 23 + 1) O v sg' rp := pI_32 P
      have k4 : tN (tp T3 32 (nI k)) 23 = tN T3 23 := rfl
      have C4 := c1.tr (tC_tp32 (w := nI k) T3)
      have B4 : (tp T3 32 (nI k)).2 25 = T3.2 25 ∧ (tp T3 32 (nI k)).2 26 = T3.2 26 := ⟨rfl, rfl⟩
      have S4 : (tp T3 32 (nI k)).1 32 = nI k := rfl
      have R4 : (tp T3 32 (nI k)).2 31 = T.2 31 ∧ (tp T3 32 (nI k)).2 32 = T.2 32 ∧ (tp T3 32 (nI k)).2 33 = T.2 33 ∧ (tp T3 32 (nI k)).2 34 = T.2 34 := ⟨c3, c4, c5, c6⟩
      generalize tp T3 32 (nI k) = T4 at kbE H4 P4 k4 C4 B4 S4 R4
      have v25 : tV T4 25 (tN T 23) = c := by unfold tV; rw [B4.1]; exact m25
      have v26 : tV T4 26 (tN T 23) = d := by unfold tV; rw [B4.2]; exact m26
      have e4 : tN T4 23 = tN T 23 + 1 := k4.trans e23
      refine ⟨y, nI (tN T 23), T4, _, L', sg', rfl, H4, by rw [e4]; exact P4, C4, by omega, fun c' i h1 h2 => by rw [adb_n (fun z => h2 z.1), adb_n (fun z => h1 z.1)], fun b hb => by rw [adb_n (fun z => by omega), adb_n (fun z => by cases z.1)], fun b h1 h2 => ?_, F1.tr q4, fun a _ h => by rw [q7, AI], ⟨fun b hb => by rw [B4.1, B4.2]; exact n25 b hb, fun b j h1 h2 hj => ?_⟩, Or.inl ⟨tN T 23, m, rfl, by omega, kbE, by omega, by omega, S4, ⟨fun j _ => by rw [R4.1, R4.2.1, R4.2.2.1]; exact ⟨rfl, rfl, rfl⟩, fun j _ => by rw [R4.2.2.2]⟩, by omega, by omega⟩⟩
      · have : b = tN T 23 := by omega
        rw [this, adb_s]
        exact Or.inr rfl
      · have : b = tN T 23 := by omega
        subst this
        rw [v25, v26]
        exact hst j hj
  · rw [if_neg h8]
    rw [if_neg h8] at kbE
    exact ⟨x, -6, T, ab, L, sg, rfl, hh0, hp, tC.rf T, Nat.le_refl _, fun _ _ _ _ => rfl, fun _ _ => rfl, fun b h1 h2 => by omega, cFr.rf x, fun a _ h => rfl, nB.rf k T, Or.inr ⟨by decide, kbE, by omega, by omega⟩⟩
end AS
