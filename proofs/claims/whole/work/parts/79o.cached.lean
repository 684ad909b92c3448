section CA
variable {x : q_S} {A : Nat → Nat} {T : tT} {E : Nat} {ab : Nat → Nat → Nat} {L : Nat → Option (List Nat)} {O : List Nat} {v sg : Nat → Nat → Int32} {rp : Nat → Nat}
/-- kept and used later than c -/
def ltr (T : tT) (c y : Nat) : Bool := decide (T.2 101 y = 1) && decide (tV T 24 c < tV T 24 y)
theorem cch_21 (hp : pI T E O v sg rp) {kk : tT → Int32 → Int32 → Int32 → Int32 → Option (tT × Int32)} {p : tT × Int32} {a : Int32} {c : Nat} (hc : c < tN T 16) (hk : kk T a (nI c) (nI ((List.range (tN T 16)).countP (ltr T c))) (nI (tN T 16)) = some p) : ∀ (m r i : Nat), i + r = tN T 16 → r < m → jt_Mo_cached_L21 kk m T a (nI c) (nI ((List.range i).countP (ltr T c))) (nI i) = some p := by
  obtain ⟨hC, hD, hkk, hB, hx, he, hr⟩ := hp
  have h30 := hC.2.2.1.2
  have hE := hC.2.2.2.2.2.2.2.2
  have hck := hC.2.2.2.2.2.1.2
  have e16 : tf T 16 = nI (tN T 16) := hC.2.2.1.1
  intro m
  induction m with
  | zero => intro r i _ h; omega
  | succ m ih =>
    intro r i hri hm
    show jt_Mo_cached_B21 kk (jt_Mo_cached_L21 kk m) T a (nI c) _ (nI i) = some p
    unfold jt_Mo_cached_B21
    rw [e16]
    cases r with
    | zero =>
      rw [if_pos (nI_le (by omega) (by omega)), show i = tN T 16 by omega]
      exact hk
    | succ r =>
      have hi : i < tN T 16 := by omega
      obtain ⟨-, -, -, q4, q5, q6⟩ := hx.1 i hi
      obtain ⟨-, -, -, -, p5, p6⟩ := hx.1 c hc
      have nxt := ih r (i + 1) (by omega) (by omega)
      rw [List.range_succ, List.countP_append, List.countP_singleton] at nxt
      rw [if_neg (nI_ge hi (by omega)), tl_n (by omega) (by decide), Option.bind_some, nI_1]
      by_cases h0 : T.2 101 i = 0
      · rw [if_pos h0]
        have : ltr T c i = false := by unfold ltr; rw [h0]; rfl
        rw [this] at nxt
        exact nxt
      · have h1 : T.2 101 i = 1 := q4.resolve_left h0
        rw [if_neg h0, tl_n (t := 24) (by omega) (by decide), Option.bind_some, tl_n (t := 24) (by omega) (by decide), Option.bind_some, q5, p5]
        by_cases hle : nI (tV T 24 i) ≤ nI (tV T 24 c)
        · have := (nI_leI (by omega) (by omega)).mp hle
          have hl : ltr T c i = false := by unfold ltr; rw [h1, decide_eq_false (show ¬ tV T 24 c < tV T 24 i by omega)]; rfl
          rw [hl] at nxt
          rw [if_pos hle]; exact nxt
        · have : tV T 24 c < tV T 24 i := Nat.lt_of_not_le (fun z => hle (nI_le z (by omega)))
          have hl : ltr T c i = true := by unfold ltr; rw [h1, decide_eq_true this]; rfl
          rw [hl] at nxt
          rw [if_neg hle, nI_1]; exact nxt
theorem cch_cnt (hp : pI T E O v sg rp) {p c : Nat} (h : O[p]? = some c) : (List.range (tN T 16)).countP (ltr T c) = p := by
  obtain ⟨hm, hs, -⟩ := hp.2.2.2.2.2.2
  have := cnt_rng (P := fun y => decide (T.2 101 y = 1)) (fun c => by rw [hm c, decide_eq_true_iff]) hs (fun y => decide (tV T 24 c < tV T 24 y))
  exact this.trans (cnt_srt O p c hs h)
theorem cch_8 (hp : pI T E O v sg rp) (k : Nat) (hk : k < 2 ^ 31) : ∀ (m r i : Nat), i + r = tN T 16 → r < m → (∀ c, c < i → O[k]? ≠ some c) → jt_Mo_cached_L8 m T (nI k) (nI i) = some (T, oI (O[k]?)) := by
  have hp0 := hp
  obtain ⟨hC, hD, hkk, hB, hx, he, hr⟩ := hp
  have h30 := hC.2.2.1.2
  have e16 : tf T 16 = nI (tN T 16) := hC.2.2.1.1
  obtain ⟨hmm, hss, hll, -⟩ := hr
  have h6 := hC.2.2.2.2.1.2.2
  intro m
  induction m with
  | zero => intro r i _ h; omega
  | succ m ih =>
    intro r i hri hm hno
    show jt_Mo_cached_B8 (jt_Mo_cached_L8 m) T (nI k) (nI i) = _
    unfold jt_Mo_cached_B8
    rw [e16]
    cases r with
    | zero =>
      rw [if_pos (nI_le (by omega) (by omega))]
      cases ho : O[k]? with
      | none => rfl
      | some c => exact absurd ho (hno c (by have := ((hmm c).mp (List.mem_of_getElem? ho)).1; omega))
    | succ r =>
      have hi : i < tN T 16 := by omega
      obtain ⟨-, -, -, q4, -⟩ := hx.1 i hi
      have nxt : O[k]? ≠ some i → jt_Mo_cached_L8 m T (nI k) (nI i + 1) = some (T, oI (O[k]?)) := fun h => by
        rw [nI_1]
        exact ih r (i + 1) (by omega) (by omega) (fun c hc => by
          by_cases hci : c = i
          · rw [hci]; exact h
          · exact hno c (by omega))
      rw [if_neg (nI_ge hi (by omega))]
      refine cch_21 hp0 hi ?_ lpK (tN T 16) 0 (Nat.zero_add _) (by unfold lpK; omega)
      rw [tl_n (by omega) (by decide), Option.bind_some]
      by_cases h0 : T.2 101 i = 0
      · rw [if_pos h0]
        refine nxt (fun z => ?_)
        have := ((hmm i).mp (List.mem_of_getElem? z)).2
        rw [h0] at this
        exact absurd this (by decide)
      · have h1 : T.2 101 i = 1 := q4.resolve_left h0
        obtain ⟨p, hpl⟩ := List.mem_iff_getElem?.mp ((hmm i).mpr ⟨hi, h1⟩)
        have hpb : p < O.length := (List.getElem?_eq_some_iff.mp hpl).1
        rw [if_neg h0, cch_cnt hp0 hpl]
        by_cases hpk : nI p = nI k
        · have e := (nI_eq (by omega) hk).mp hpk
          rw [if_pos hpk, ← e, hpl]; rfl
        · rw [if_neg hpk]
          refine nxt (fun z => ?_)
          have := cch_cnt hp0 z
          rw [cch_cnt hp0 hpl] at this
          exact hpk (by rw [this])
theorem g_cached (h : gI x A T E) (hE : E + 100000 ≤ 1000000000) (a : Int32) : gO' A x T E (jf_Bc_cached x (A 0) a) (jt_Mo_cached T a) := by
  have h0 := h
  obtain ⟨ab, L, O, v, sg, rp, hh, hp, hq⟩ := h
  obtain ⟨⟨kn, ⟨⟨b1, b2, b3, b4, b5, b6, b7⟩, -, -, -, ⟨s1, s2, s3, s4, s5, s6⟩, -⟩, hR⟩, ⟨hJ, hw, l2, l7, l9, l10, l11, -⟩, -, -, hCC, -⟩ := hh
  obtain ⟨i11, -, hl⟩ := hJ.1 _ _ l11
  have lS := L_size i11
  rw [List.length_map] at lS hl
  have h30 := hp.1.2.2.1.2
  unfold jf_Bc_cached jt_Mo_cached
  rw [y_gRs b1 b6, Option.bind_some, y_av s1, Option.bind_some]
  unfold jf_Sh_numberAt
  rw [y_gRs s1 s6, Option.bind_some, y_av i11.1, Option.bind_some, lS, Option.bind_some]
  dsimp only
  rw [isBelow_eq, Option.bind_some]
  dsimp only
  by_cases ha : a < 0
  · rw [if_pos (show blw a (nI O.length) = 0 from if_pos ha), if_neg (fun z => by rw [Int32.lt_iff_toInt_lt] at ha; rw [Int32.le_iff_toInt_le] at z; omega)]
    exact gO_rd (r := -1) h0 hE rfl rfl
  · obtain ⟨k, hk, rfl⟩ := nI_of ha
    rw [if_pos (c := 0 ≤ nI k) (nI_pos' hk), show jt_Mo_cached_L8 lpK T (nI k) 0 = some (T, oI (O[k]?)) from cch_8 hp k hk lpK (tN T 16) 0 (Nat.zero_add _) (by unfold lpK; omega) (fun c hc => absurd hc (Nat.not_lt_zero c))]
    by_cases hkl : k < O.length
    · obtain ⟨c, hc⟩ : ∃ c, O[k]? = some c := ⟨_, List.getElem?_eq_getElem hkl⟩
      have hcm := ((hp.2.2.2.2.2.2.1 c).mp (List.mem_of_getElem? hc)).1
      obtain ⟨⟨g1, g2, -⟩, -⟩ := hCC.1 c hcm
      rw [if_neg (by rw [blw_of hkl (by omega)]; decide), y_gRs s1 s6, Option.bind_some, y_av i11.1, Option.bind_some, L_get i11 (by rw [List.length_map]; exact hl) (by rw [List.length_map]; exact hkl), List.getElem?_map, hc, Option.bind_some]
      show gO' A x T E (((q_ck x (some (ab 9 c)) 9).bind fun u17 => (q_gI x (some (ab 9 c)) 9 0).bind fun v18 => some (x, v18)).bind fun p3 => some (p3.1, p3.2)) _
      rw [y_ck g1, Option.bind_some, y_gI g1 g2]
      exact gO_rd (r := nI c) h0 hE rfl rfl
    · have hz : blw (nI k) (nI O.length) = 0 := Classical.byContradiction (fun z => by
        obtain ⟨i, hi, e⟩ := blw_n (by omega) z
        have := (nI_eq hk (by omega)).mp e
        omega)
      rw [if_pos hz, List.getElem?_eq_none (by omega)]
      exact gO_rd (r := -1) h0 hE rfl rfl
end CA
