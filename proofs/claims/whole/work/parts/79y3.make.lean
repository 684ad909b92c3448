/-! A bean is made. -/
/-- the reference's numbers with one bean more -/
def tBn (T : tT) (b : Nat) (c d mk : Int32) (w : Nat → Int32) : tT := tp (tset (tset (tset (tset T 25 (upd (T.2 25) b c)) 26 (upd (T.2 26) b d)) 102 (upd (T.2 102) b mk)) 27 (upd (upd (upd (T.2 27) (3 * b + 0) (w 0)) (3 * b + 1) (w 1)) (3 * b + 2) (w 2))) 23 (nI (b + 1))
section MK
variable {x y : q_S} {A : Nat → Nat} {T : tT} {E : Nat} {ab : Nat → Nat → Nat} {L : Nat → Option (List Nat)} {O : List Nat} {v sg : Nat → Nat → Int32} {rp : Nat → Nat}
theorem upd3 {f w : Nat → Int32} {b b' k : Nat} (hk : k < 3) : upd (upd (upd f (3 * b + 0) (w 0)) (3 * b + 1) (w 1)) (3 * b + 2) (w 2) (3 * b' + k) = if b' = b then w k else f (3 * b' + k) := by
  by_cases e : b' = b
  · subst e
    rw [if_pos rfl]
    have : k = 0 ∨ k = 1 ∨ k = 2 := by omega
    rcases this with rfl | rfl | rfl
    · rw [upd_n (by omega), upd_n (by omega), upd_s]
    · rw [upd_n (by omega), upd_s]
    · rw [upd_s]
  · rw [if_neg e, upd_n (by omega), upd_n (by omega), upd_n (by omega)]
theorem mk_s {b d k : Nat} {lv : Int32} {w : Nat → Int32} (h23 : T.1 23 = nI b) (hb : b < 200) (hk : k < 3) (hd : d < 10) (hw : (lv < 0 ∧ w k = -1) ∨ (∃ l, lv = nI l ∧ l < 32 ∧ T.2 14 d = nI (tV T 14 d) ∧ tV T 14 d ≤ 3 ∧ w k = if k < tV T 14 d then T.2 34 (3 * l + k) else -1)) (m : Nat) : jt_Mo_make_L54 (m + 1) T (nI d) lv (nI k) = jt_Mo_make_L54 m (tset T 27 (upd (T.2 27) (3 * b + k) (w k))) (nI d) lv (nI (k + 1)) := by
  have e3 : (3 : Int32) * nI b + nI k = nI (3 * b + k) := by
    rw [← nI_add]
    exact congrArg (· + nI k) (Int32.ofNat_mul 3 b).symm
  show jt_Mo_make_B54 (jt_Mo_make_L54 m) T (nI d) lv (nI k) = _
  unfold jt_Mo_make_B54
  rw [if_neg (show ¬ (3 : Int32) ≤ nI k from nI_ge (a := k) (b := 3) hk (by decide)), show tf T 23 = nI b from h23, e3, tw_n (by omega) (by decide), Option.bind_some, nI_1]
  rcases hw with ⟨h1, h2⟩ | ⟨l, rfl, hl, h1, h3, h2⟩
  · rw [if_pos h1, h2]
  · have e4 : (3 : Int32) * nI l + nI k = nI (3 * l + k) := by
      rw [← nI_add]
      exact congrArg (· + nI k) (Int32.ofNat_mul 3 l).symm
    rw [if_neg (nI_pos (by omega)), tl_n hd (by decide), Option.bind_some, h1, h2]
    by_cases hkn : k < tV T 14 d
    · rw [if_pos hkn, if_neg (nI_ge hkn (by omega)), e4, tl_n (by omega) (by decide), Option.bind_some, tw_n (by omega) (by decide), Option.bind_some]
    · rw [if_neg hkn, if_pos (nI_le (by omega) (by omega))]
theorem make_eq {b c d : Nat} {lv mk : Int32} {w : Nat → Int32} (h23 : T.1 23 = nI b) (hb : b < 200) (hd : d < 10) (h38 : T.1 38 = nI (tN T 38)) (h38' : tN T 38 < 2 ^ 31) (hmk : (lv < 0 ∧ mk = 1) ∨ (0 ≤ lv ∧ mk = 0)) (hw : (lv < 0 ∧ ∀ k, w k = -1) ∨ (∃ l, lv = nI l ∧ l < 32 ∧ T.2 14 d = nI (tV T 14 d) ∧ tV T 14 d ≤ 3 ∧ ∀ k, w k = if k < tV T 14 d then T.2 34 (3 * l + k) else -1)) : jt_Mo_make T (nI c) (nI d) lv = some (tNote (tBn T b (nI c) (nI d) mk w) ((64 : Int32) * 1 + nI d), nI b) := by
  have key : ∀ (T0 : tT), T0.1 = T.1 → T0.2 14 = T.2 14 → T0.2 34 = T.2 34 → T0.2 35 = T.2 35 → jt_Mo_make_L54 lpK T0 (nI d) lv 0 = some (tNote (tp (tset T0 27 (upd (upd (upd (T0.2 27) (3 * b + 0) (w 0)) (3 * b + 1) (w 1)) (3 * b + 2) (w 2))) 23 (nI (b + 1))) ((64 : Int32) * 1 + nI d), nI b) := by
    intro T0 f1 f14 f34 f35
    have hw' : ∀ k, (lv < 0 ∧ w k = -1) ∨ (∃ l, lv = nI l ∧ l < 32 ∧ T0.2 14 d = nI (tV T0 14 d) ∧ tV T0 14 d ≤ 3 ∧ w k = if k < tV T0 14 d then T0.2 34 (3 * l + k) else -1) := fun k => by
      rcases hw with ⟨h1, h2⟩ | ⟨l, h1, h2, h3, h4, h5⟩
      · exact Or.inl ⟨h1, h2 k⟩
      · have e : tV T0 14 d = tV T 14 d := by unfold tV; rw [f14]
        exact Or.inr ⟨l, h1, h2, by rw [e, f14]; exact h3, by rw [e]; exact h4, by rw [e, f34]; exact h5 k⟩
    have h230 : T0.1 23 = nI b := by rw [f1]; exact h23
    have s0 := mk_s (T := T0) (k := 0) h230 hb (by decide) hd (hw' 0) (996 + 1 + 1 + 1)
    have s1 := mk_s (T := tset T0 27 (upd (T0.2 27) (3 * b + 0) (w 0))) (k := 1) h230 hb (by decide) hd (hw' 1) (996 + 1 + 1)
    have s2 := mk_s (T := tset (tset T0 27 (upd (T0.2 27) (3 * b + 0) (w 0))) 27 (upd ((tset T0 27 (upd (T0.2 27) (3 * b + 0) (w 0))).2 27) (3 * b + 1) (w 1))) (k := 2) h230 hb (by decide) hd (hw' 2) (996 + 1)
    rw [show lpK = 996 + 1 + 1 + 1 + 1 from rfl, show (0 : Int32) = nI 0 from rfl, s0, s1, s2, tset_g, tset_g, tset_t, tset_t]
    show jt_Mo_make_B54 _ _ (nI d) lv (nI 3) = _
    unfold jt_Mo_make_B54
    rw [if_pos (show (3 : Int32) ≤ nI (2 + 1) by decide)]
    have e1 : tf (tset T0 27 (upd (upd (upd (T0.2 27) (3 * b + 0) (w 0)) (3 * b + 1) (w 1)) (3 * b + 2) (w 2))) 23 = nI b := h230
    rw [e1, nI_1]
    dsimp only [tpi]
    rw [Option.bind_some]
    have e38 : (tp (tset T0 27 (upd (upd (upd (T0.2 27) (3 * b + 0) (w 0)) (3 * b + 1) (w 1)) (3 * b + 2) (w 2))) 23 (nI (b + 1))).1 38 = T.1 38 := by
      show T0.1 38 = _; rw [f1]
    have n38 : tN (tp (tset T0 27 (upd (upd (upd (T0.2 27) (3 * b + 0) (w 0)) (3 * b + 1) (w 1)) (3 * b + 2) (w 2))) 23 (nI (b + 1))) 38 = tN T 38 := by unfold tN; rw [e38]
    rw [note_eq (by rw [e38, n38]; exact h38) (by rw [n38]; exact h38'), Option.bind_some]
    refine congrArg some (Prod.ext rfl ?_)
    show nI (b + 1) - 1 = nI b
    exact nI_pred b
  unfold jt_Mo_make
  rw [show tf T 23 = nI b from h23, if_neg (show ¬ nI b = 200 from fun z => by have := (nI_eq (b := 200) (by omega) (by decide)).mp z; omega), tw_n (by omega) (by decide), Option.bind_some, tset_f, show tf T 23 = nI b from h23, tw_n (by omega) (by decide), Option.bind_some, tset_f, tset_f, show tf T 23 = nI b from h23]
  rcases hmk with ⟨h1, rfl⟩ | ⟨h1, rfl⟩
  · rw [if_neg (Int32.not_le.mpr h1), show ((1 : Int32) &&& 1) = 1 by decide, tw_n (by omega) (by decide), Option.bind_some]
    exact key _ rfl rfl rfl rfl
  · rw [if_pos h1, show ((0 : Int32) &&& 1) = 0 by decide, tw_n (by omega) (by decide), Option.bind_some]
    exact key _ rfl rfl rfl rfl
set_option maxHeartbeats 2000000 in
theorem eI_mk {T1 : tT} {b c d : Nat} {mk : Int32} {gv : Nat → Int32} {go : Nat → Option Nat} {sg' : Nat → Nat → Int32} (he : eI T v sg) (hb : tN T 23 = b) (hb2 : b < 200) (hb1 : tN T1 23 = b + 1) (h16 : tN T1 16 = tN T 16) (h2 : tN T1 2 = tN T 2) (rr : ∀ t, t ≠ 25 → t ≠ 26 → t ≠ 102 → t ≠ 27 → T1.2 t = T.2 t) (h25 : T1.2 25 = upd (T.2 25) b (nI c)) (h26 : T1.2 26 = upd (T.2 26) b (nI d)) (h102 : T1.2 102 = upd (T.2 102) b mk) (h27 : ∀ b' k, k < 3 → T1.2 27 (3 * b' + k) = if b' = b then gv k else T.2 27 (3 * b' + k)) (hc : c < tN T 16) (hc30 : tN T 16 ≤ 30) (hd : d < tN T 2) (hd10 : tN T 2 ≤ 10) (hmk : mk = 0 ∨ mk = 1) (hv : v 1 c = 0) (hin : hs (T.2 18 (tV T 22 c)) d) (hm : mk = 1 ↔ hs (T.2 19 (tV T 22 c)) d) (hg : ∀ k, k < 3 → gv k = oI (go k) ∧ (∀ g, go k = some g → g < b) ∧ (go k = none ↔ (if mk = 0 then tV T 14 d else 0) ≤ k)) (hun : hs (v 2 (tV T 22 c)) d → ∀ b', b' < b → ¬ (tV T 25 b' = c ∧ tV T 26 b' = d)) (hsg : (hs (v 2 (tV T 22 c)) d ∧ sg' = upv sg c d (nI b)) ∨ (¬ hs (v 2 (tV T 22 c)) d ∧ sg' = sg)) : eI T1 v sg' := by
  obtain ⟨he1, he2, he3⟩ := he
  have V25 : ∀ b', b' ≠ b → tV T1 25 b' = tV T 25 b' := fun b' h => by unfold tV; rw [h25, upd_n h]
  have V26 : ∀ b', b' ≠ b → tV T1 26 b' = tV T 26 b' := fun b' h => by unfold tV; rw [h26, upd_n h]
  have B25 : tV T1 25 b = c := by unfold tV; rw [h25, upd_s, nI_clamp (by omega)]
  have B26 : tV T1 26 b = d := by unfold tV; rw [h26, upd_s, nI_clamp (by omega)]
  have V22 : ∀ j, tV T1 22 j = tV T 22 j := fun j => by unfold tV; rw [rr 22 (by decide) (by decide) (by decide) (by decide)]
  have V14 : ∀ j, tV T1 14 j = tV T 14 j := fun j => by unfold tV; rw [rr 14 (by decide) (by decide) (by decide) (by decide)]
  have r18 := rr 18 (by decide) (by decide) (by decide) (by decide)
  have r19 := rr 19 (by decide) (by decide) (by decide) (by decide)
  have r28 := rr 28 (by decide) (by decide) (by decide) (by decide)
  have r29 := rr 29 (by decide) (by decide) (by decide) (by decide)
  have r30 := rr 30 (by decide) (by decide) (by decide) (by decide)
  have r103 := rr 103 (by decide) (by decide) (by decide) (by decide)
  refine ⟨fun b' hb' => ?_, fun b' hb' => ?_, fun c' d' hc' hd' hs' => ?_⟩
  · rw [hb1] at hb'
    by_cases e : b' = b
    · subst e
      have wE : wl T1 b' = if mk = 0 then tV T 14 d else 0 := by unfold wl; rw [h102, upd_s, B26, V14]
      rw [B25, B26, V22, h16, h2, r18, r19, r103, h25, h26, h102, upd_s, upd_s, upd_s, wE]
      refine ⟨⟨rfl, hc⟩, ⟨rfl, hd⟩, hmk, ?_, hin, hm, fun k hk => ?_⟩
      · rw [hv]; exact (he2 b' (by omega)).2.2.2
      · obtain ⟨q1, q2, q3⟩ := hg k hk
        have e27 : T1.2 27 (3 * b' + k) = oI (go k) := by rw [h27 b' k hk, if_pos rfl, q1]
        have eO : tO T1 27 (3 * b' + k) = go k := tO_of e27 (fun n hn => by have := q2 n hn; omega)
        rw [eO]
        exact ⟨e27, q2, q3⟩
    · obtain ⟨q1, q2, q3, q4, q5, q6, q7⟩ := he1 b' (by omega)
      have wE : wl T1 b' = wl T b' := by unfold wl; rw [h102, upd_n e, V26 b' e, V14]
      rw [V25 b' e, V26 b' e, V22, h16, h2, r18, r19, r103, h25, h26, h102, upd_n e, upd_n e, upd_n e, wE]
      refine ⟨q1, q2, q3, q4, q5, q6, fun k hk => ?_⟩
      have e27 : T1.2 27 (3 * b' + k) = T.2 27 (3 * b' + k) := by rw [h27 b' k hk, if_neg e]
      have eO : tO T1 27 (3 * b' + k) = tO T 27 (3 * b' + k) := by unfold tO tV; rw [e27]
      rw [eO, e27]
      exact q7 k hk
  · rw [hb1] at hb'
    rw [r28, r29, r30, r103]
    exact he2 b' (by omega)
  · rw [h16] at hc'
    rw [V22] at hs'
    obtain ⟨o, o1, o2⟩ := he3 c' d' hc' hd' hs'
    have key : ¬ (c' = c ∧ d' = d) → ∀ b', (o = some b' ↔ b' < tN T1 23 ∧ tV T1 25 b' = c' ∧ tV T1 26 b' = d') := fun hne b' => by
      rw [o2 b', hb1]
      by_cases e : b' = b
      · subst e
        rw [B25, B26]
        exact ⟨fun z => absurd z.1 (by omega), fun z => absurd ⟨z.2.1.symm, z.2.2.symm⟩ hne⟩
      · rw [V25 b' e, V26 b' e]
        exact ⟨fun z => ⟨by omega, z.2⟩, fun z => ⟨by omega, z.2⟩⟩
    rcases hsg with ⟨s1, rfl⟩ | ⟨s1, rfl⟩
    · by_cases e : c' = c ∧ d' = d
      · obtain ⟨rfl, rfl⟩ := e
        refine ⟨some b, upv_s, fun b' => ?_⟩
        rw [hb1]
        by_cases e : b' = b
        · subst e
          exact ⟨fun _ => ⟨by omega, B25, B26⟩, fun _ => rfl⟩
        · rw [V25 b' e, V26 b' e]
          exact ⟨fun z => absurd (Option.some.inj z).symm e, fun z => absurd ⟨z.2.1, z.2.2⟩ (hun s1 b' (by omega))⟩
      · exact ⟨o, by rw [upv_n e]; exact o1, key e⟩
    · exact ⟨o, o1, key (fun e => s1 (by rw [← e.1, ← e.2]; exact hs'))⟩
end MK
