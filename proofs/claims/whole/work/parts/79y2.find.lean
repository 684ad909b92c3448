/-! A need is looked up. -/
def chl (T : tT) : Nat → Option Nat → Prop
  | 0, o => o = none
  | n + 1, o => ∀ c, o = some c → c < tN T 16 ∧ chl T n (tO T 23 c)
theorem chl_tp {T : tT} {w : Int32} : ∀ (n : Nat) (o : Option Nat), chl T n o → chl (tp T 37 w) n o
  | 0, _, h => h
  | n + 1, _, h => fun c hc => ⟨(h c hc).1, chl_tp n (tO T 23 c) (h c hc).2⟩
theorem tp_tp (T : tT) (k : Nat) (a b : Int32) : tp (tp T k a) k b = tp T k b := by
  unfold tp
  refine Prod.ext ?_ rfl
  funext j
  dsimp only
  by_cases h : j = k
  · rw [if_pos h, if_pos h]
  · rw [if_neg h, if_neg h, if_neg h]
theorem tp_s (T : tT) (k : Nat) : tp T k (T.1 k) = T := by
  unfold tp
  refine Prod.ext ?_ rfl
  funext j
  dsimp only
  by_cases h : j = k
  · rw [if_pos h, h]
  · rw [if_neg h]
section FD
variable {x : q_S} {A : Nat → Nat} {T : tT} {E : Nat} {ab : Nat → Nat → Nat} {L : Nat → Option (List Nat)} {O : List Nat} {v sg : Nat → Nat → Int32} {rp : Nat → Nat}
theorem chl_3 (hp : pI T E O v sg rp) {c : Nat} (hc : c < tN T 16) : chl T 3 (some c) := by
  have hx := hp.2.2.2.2.1
  intro c' h
  cases h
  refine ⟨hc, fun u hu => ?_⟩
  have lu := ((hx.1 c hc).2.1.2 u hu).1
  refine ⟨by omega, fun w hw => ?_⟩
  have lw := ((hx.1 u (by omega)).2.1.2 w hw).1
  exact ⟨by omega, top3 hp hc hu hw⟩
/-- the class's choice -/
theorem chs_eq (hh : hI x A ab L O v sg rp T) (hp : pI T E O v sg rp) {C na : Int32} {p q r : Nat → Bool} (hC : ∀ d, d < 32 → hs C d → d < tN T 2) (hP : ∀ d, d < 10 → (p d = true ↔ hs C d)) (hQ : ∀ d, d < 10 → q d = (p d && decide (T.2 11 d &&& 1 ≠ 0))) (hR : ∀ d, d < 10 → r d = (p d && decide (nI d = na))) (hna : nam na ≠ 0) (h0 : cn p (tN T 2) ≠ 0) : jf_Ca_choose x (A 1) C na = some (x, if cn p (tN T 2) = 1 then oI (lst p (tN T 2)) else if cn q (tN T 2) = 1 then oI (lst q (tN T 2)) else if cn q (tN T 2) = 0 ∧ an r (tN T 2) = true then na else -4) := by
  have h10 := hp.1.1.2
  obtain ⟨b1, b2⟩ := bc_s h10 hC hP
  have c1 : q_al x 1 (A 1) = true := by
    obtain ⟨⟨kn, ⟨-, ⟨c1, -⟩, -⟩, -⟩, -⟩ := hh
    exact c1
  obtain ⟨F, f1, f2⟩ := flg_eq hh h10 1
  have hC2 : ∀ d, d < 32 → hs (C &&& F) d → d < tN T 2 := fun d hd hb => hC d hd ((hs_and hd).mp hb).1
  have hP2 : ∀ d, d < 10 → (q d = true ↔ hs (C &&& F) d) := fun d hd => by
    rw [hQ d hd, Bool.and_eq_true, decide_eq_true_iff, hP d hd, hs_and (by omega), f2 d (by omega)]
    exact ⟨fun z => ⟨z.1, hC d (by omega) z.1, z.2⟩, fun z => ⟨z.1, z.2.2⟩⟩
  obtain ⟨d1, d2⟩ := bc_s h10 hC2 hP2
  have lp := cn_le p (tN T 2)
  have lq := cn_le q (tN T 2)
  unfold jf_Ca_choose
  rw [bc_eq, Option.bind_some]
  dsimp only
  rw [b1]
  by_cases e1 : cn p (tN T 2) = 1
  · rw [if_pos e1, e1, if_pos (show nI 1 = 1 from rfl), tz_eq, Option.bind_some, b2 e1]
  · rw [if_neg e1, if_neg (show ¬ nI (cn p (tN T 2)) = 1 from fun z => e1 ((nI_eq (b := 1) (by omega) (by decide)).mp z)), y_av c1, Option.bind_some, f1, Option.bind_some]
    dsimp only
    have z0 : C &&& F = 0 ↔ cn q (tN T 2) = 0 := by
      rw [cn_0]
      constructor
      · intro h d hd
        cases e : q d with
        | false => rfl
        | true => have := (hP2 d (by omega)).mp e; rw [h] at this; exact absurd this (hs_0 d)
      · intro h
        refine hs_ext (fun d hd => ⟨fun z => ?_, fun z => absurd z (hs_0 d)⟩)
        have := hC2 d hd z
        have := h d this
        rw [(hP2 d (by omega)).mpr z] at this; cases this
    by_cases e2 : cn q (tN T 2) = 0
    · rw [if_pos (z0.mpr e2), if_neg (show ¬ cn q (tN T 2) = 1 by omega)]
      by_cases hn : na = -1
      · rw [if_pos hn, if_neg]
        rintro ⟨-, z⟩
        obtain ⟨d, hd, hr⟩ := (an_iff _).mp z
        rw [hR d (by omega), Bool.and_eq_true, decide_eq_true_iff, hn] at hr
        have := nI_pos (n := d) (by omega)
        rw [hr.2] at this
        exact this (by decide)
      · rw [if_neg hn]
        have hjb : blw na 10 ≠ 0 := fun z => hna (by unfold nam; rw [if_neg hn]; exact z)
        obtain ⟨j, hj, rfl⟩ := blw_n (n := 10) (by decide) hjb
        rcases cont_eq x C j with ⟨a1, a2⟩ | ⟨a1, a2⟩
        · rw [a2, Option.bind_some]
          dsimp only
          rw [if_neg i10, if_pos ⟨e2, (an_iff _).mpr ⟨j, hC j (by omega) a1, by rw [hR j hj, (hP j hj).mpr a1, decide_eq_true (rfl : nI j = nI j)]; rfl⟩⟩]
        · rw [a2, Option.bind_some]
          dsimp only
          rw [if_pos i00, if_neg]
          rintro ⟨-, z⟩
          obtain ⟨d, hd, hr⟩ := (an_iff _).mp z
          rw [hR d (by omega), Bool.and_eq_true, decide_eq_true_iff] at hr
          have e := (nI_eq (by omega) (by omega)).mp hr.2
          rw [e] at hr
          exact a1 ((hP j hj).mp hr.1)
    · rw [if_neg (fun z => e2 (z0.mp z)), bc_eq, Option.bind_some]
      dsimp only
      rw [d1]
      by_cases e3 : cn q (tN T 2) = 1
      · rw [if_pos e3, e3, if_pos (show nI 1 = 1 from rfl), tz_eq, Option.bind_some, d2 e3]
      · rw [if_neg e3, if_neg (show ¬ nI (cn q (tN T 2)) = 1 from fun z => e3 ((nI_eq (b := 1) (by omega) (by decide)).mp z)), if_neg (show ¬ (cn q (tN T 2) = 0 ∧ an r (tN T 2) = true) from fun z => e2 z.1)]
set_option maxHeartbeats 2000000 in
theorem find_L {a ty : Nat} {qu na l3 : Int32} (rcS : q_S → Nat → Option Nat → Option Nat → Int32 → Option (q_S × Int32)) (ho : oN x a (nI ty) qu na) (hty : ty < 6) (hna : nam na ≠ 0) : ∀ (n : Nat) (o : Option Nat) (k m m2 : Nat) (T : tT), hI x A ab L O v sg rp T → pI T E O v sg rp → chl T n o → k + n ≤ 3 → n < m → n < m2 → (∃ w e, (e = -3 ∨ e = -4) ∧ jt_Mo_find_L6 m T (nI ty) qu na (oI o) (nI k) = some (tp T 37 w, e) ∧ jf_Wo_supplyNeed_L3 rcS m2 x (A 4) (some a) l3 (o.map (ab 9)) = some (x, e)) ∨ ∃ h d, h < tN T 16 ∧ d < tN T 2 ∧ hs (T.2 18 (tV T 22 h)) d ∧ (∀ Q : Nat → Prop, (∀ c, o = some c → Q c) → (∀ c u, Q c → tO T 23 c = some u → Q u) → Q h) ∧ jt_Mo_find_L6 m T (nI ty) qu na (oI o) (nI k) = some (tp T 37 (nI h), nI d) ∧ jf_Wo_supplyNeed_L3 rcS m2 x (A 4) (some a) l3 (o.map (ab 9)) = (jf_Wo_supply rcS x (A 4) (some (ab 9 h)) (nI d) l3).bind fun p26 => some (p26.1, p26.2) := by
  intro n
  induction n with
  | zero =>
    intro o k m m2 T hh hp hch hk hm hm2
    cases (show o = none from hch)
    obtain ⟨m, rfl⟩ : ∃ m', m = m' + 1 := ⟨m - 1, by omega⟩
    obtain ⟨m2, rfl⟩ : ∃ m', m2 = m' + 1 := ⟨m2 - 1, by omega⟩
    refine Or.inl ⟨T.1 37, -3, Or.inl rfl, ?_, ?_⟩
    · show jt_Mo_find_B6 (jt_Mo_find_L6 m) T (nI ty) qu na (oI none) (nI k) = _
      unfold jt_Mo_find_B6
      rw [if_neg (show ¬ (4 : Int32) ≤ nI k from nI_ge (a := k) (b := 4) (by omega) (by decide)), if_pos (show oI none < 0 by decide), tp_s]
    · show jf_Wo_supplyNeed_B3 rcS (jf_Wo_supplyNeed_L3 rcS m2) x (A 4) (some a) l3 none = _
      unfold jf_Wo_supplyNeed_B3
      rw [if_pos rfl]
  | succ n ih =>
    intro o k m m2 T hh hp hch hk hm hm2
    obtain ⟨m, rfl⟩ : ∃ m', m = m' + 1 := ⟨m - 1, by omega⟩
    obtain ⟨m2, rfl⟩ : ∃ m', m2 = m' + 1 := ⟨m2 - 1, by omega⟩
    cases o with
    | none =>
      refine Or.inl ⟨T.1 37, -3, Or.inl rfl, ?_, ?_⟩
      · show jt_Mo_find_B6 (jt_Mo_find_L6 m) T (nI ty) qu na (oI none) (nI k) = _
        unfold jt_Mo_find_B6
        rw [if_neg (show ¬ (4 : Int32) ≤ nI k from nI_ge (a := k) (b := 4) (by omega) (by decide)), if_pos (show oI none < 0 by decide), tp_s]
      · show jf_Wo_supplyNeed_B3 rcS (jf_Wo_supplyNeed_L3 rcS m2) x (A 4) (some a) l3 none = _
        unfold jf_Wo_supplyNeed_B3
        rw [if_pos rfl]
    | some c =>
      obtain ⟨hc, hch'⟩ := hch c rfl
      have h10 := hp.1.1.2
      have h30 := hp.1.2.2.1.2
      obtain ⟨⟨x1, x2, -⟩, ⟨x3, x4⟩, -⟩ := hp.2.2.2.2.1.1 c hc
      obtain ⟨C, cE, cB⟩ := cand_eq hh hp (T.2 18 (tV T 22 c)) ho hty
      have hhI := hh
      obtain ⟨⟨kn, ⟨-, ⟨c1, -⟩, -, ⟨w1, w2, w3, w4⟩, -⟩, hR⟩, -, -, hKK, hCC, -⟩ := hh
      obtain ⟨⟨g1, g2, g3, g4, -⟩, -⟩ := hCC.1 c hc
      obtain ⟨k1, k2, k3, -⟩ := hKK.1 _ x2
      let p : Nat → Bool := fun d => decide (hs C d)
      let q : Nat → Bool := fun d => p d && decide (T.2 11 d &&& 1 ≠ 0)
      let r : Nat → Bool := fun d => p d && decide (nI d = na)
      have hP : ∀ d, p d = true ↔ hs C d := fun d => decide_eq_true_iff
      have hC : ∀ d, d < 32 → hs C d → d < tN T 2 := fun d hd z => ((cB d hd).mp z).1
      have naE : jf_Ne_name x a = some (x, na) := by
        obtain ⟨n1, n2, n3, n4⟩ := ho
        unfold jf_Ne_name; rw [y_gI n1 n4]; rfl
      have fL := fin_L (E := E) hp (qu := qu) (na := na) (k := nI k) hc hty (p := p) (q := q) (r := r) (fun d hd => by rw [hP, cB d (by omega)]; exact ⟨fun z => z.2, fun z => ⟨hd, z⟩⟩) (fun d _ => rfl) (fun d _ => rfl)
      have ch := chs_eq hhI hp (na := na) (p := p) (q := q) (r := r) hC (fun d _ => hP d) (fun d _ => rfl) (fun d _ => rfl) hna
      have gC : jf_Wo_supplyNeed_L3 rcS (m2 + 1) x (A 4) (some a) l3 (some (ab 9 c)) = if C = 0 then jf_Wo_supplyNeed_L3 rcS m2 x (A 4) (some a) l3 ((tO T 23 c).map (ab 9)) else (jf_Ca_choose x (A 1) C na).bind fun p21 => if 0 ≤ p21.2 then (q_av p21.1 (some (A 4)) 4).bind fun b28 => (jf_Wo_supply rcS p21.1 b28 (some (ab 9 c)) p21.2 l3).bind fun p26 => some (p26.1, p26.2) else some (p21.1, p21.2) := by
        show jf_Wo_supplyNeed_B3 rcS (jf_Wo_supplyNeed_L3 rcS m2) x (A 4) (some a) l3 (some (ab 9 c)) = _
        unfold jf_Wo_supplyNeed_B3
        rw [if_neg (fun z => by cases z), y_gRs w1 w2, Option.bind_some, y_gRs g1 g3, Option.bind_some, y_gI k1 k3, Option.bind_some, y_av c1, Option.bind_some, cE, Option.bind_some]
        dsimp only
        rw [y_gR g1 g4, Option.bind_some, y_gRs w1 w2, Option.bind_some, y_av ho.1, Option.bind_some, naE, Option.bind_some]
        dsimp only
        rw [y_av c1, Option.bind_some]
      have gT : jt_Mo_find_L6 (m + 1) T (nI ty) qu na (nI c) (nI k) = if nI (cn p (tN T 2)) = 1 then some (tp T 37 (nI c), oI (lst p (tN T 2))) else if nI (cn p (tN T 2)) ≤ 1 then jt_Mo_find_L6 m (tp T 37 (nI c)) (nI ty) qu na (oI (tO T 23 c)) (nI (k + 1)) else if nI (cn q (tN T 2)) = 1 then some (tp T 37 (nI c), oI (lst q (tN T 2))) else if nI (cn q (tN T 2)) = 0 then if b01 (an r (tN T 2)) = 0 then some (tp T 37 (nI c), -4) else some (tp T 37 (nI c), na) else some (tp T 37 (nI c), -4) := by
        show jt_Mo_find_B6 (jt_Mo_find_L6 m) T (nI ty) qu na (nI c) (nI k) = _
        unfold jt_Mo_find_B6
        rw [if_neg (show ¬ (4 : Int32) ≤ nI k from nI_ge (a := k) (b := 4) (by omega) (by decide)), if_neg (nI_pos (by omega))]
        refine (fL _ lpK (tN T 2) 0 (Nat.zero_add _) (by unfold lpK; omega)).trans ?_
        dsimp only [tpi]
        rw [Option.bind_some, show tl (tp T 37 (nI c)) 23 30 (nI c) = some (T.2 23 c) from tl_n (by omega) (by decide), Option.bind_some, x3, nI_1]
      have hcp : C = 0 ↔ cn p (tN T 2) = 0 := by
        rw [cn_0]
        constructor
        · intro h d hd
          cases e : p d with
          | false => rfl
          | true => have := (hP d).mp e; rw [h] at this; exact absurd this (hs_0 d)
        · intro h
          refine hs_ext (fun d hd => ⟨fun z => ?_, fun z => absurd z (hs_0 d)⟩)
          have := h d (hC d hd z)
          rw [(hP d).mpr z] at this; cases this
      have lp := cn_le p (tN T 2)
      have lq := cn_le q (tN T 2)
      have win : ∀ d, hs C d → (∃ h d', h < tN T 16 ∧ d' < tN T 2 ∧ hs (T.2 18 (tV T 22 h)) d' ∧ (∀ Q : Nat → Prop, (∀ c', some c = some c' → Q c') → (∀ c u, Q c → tO T 23 c = some u → Q u) → Q h) ∧ some (tp T 37 (nI c), nI d) = some (tp T 37 (nI h), nI d') ∧ ((jf_Wo_supply rcS x (A 4) (some (ab 9 c)) (nI d) l3).bind fun p26 => some (p26.1, p26.2)) = (jf_Wo_supply rcS x (A 4) (some (ab 9 h)) (nI d') l3).bind fun p26 => some (p26.1, p26.2)) ∨ ¬ d < 32 := fun d hd => by
        by_cases h32 : d < 32
        · exact Or.inl ⟨c, d, hc, hC d h32 hd, ((cB d h32).mp hd).2.1, fun Q h1 _ => h1 c rfl, rfl, rfl⟩
        · exact Or.inr h32
      show (∃ w e, _ ∧ jt_Mo_find_L6 (m + 1) T (nI ty) qu na (nI c) (nI k) = _ ∧ jf_Wo_supplyNeed_L3 rcS (m2 + 1) x (A 4) (some a) l3 (some (ab 9 c)) = _) ∨ ∃ h d, _ ∧ _ ∧ _ ∧ _ ∧ jt_Mo_find_L6 (m + 1) T (nI ty) qu na (nI c) (nI k) = _ ∧ jf_Wo_supplyNeed_L3 rcS (m2 + 1) x (A 4) (some a) l3 (some (ab 9 c)) = _
      rw [gC, gT]
      by_cases e0 : cn p (tN T 2) = 0
      · rw [if_pos (hcp.mpr e0), e0, if_neg (show ¬ nI 0 = 1 by decide), if_pos (show nI 0 ≤ 1 by decide)]
        rcases ih (tO T 23 c) (k + 1) m m2 (tp T 37 (nI c)) hhI hp (chl_tp n _ hch') (by omega) (by omega) (by omega) with ⟨w, e, h1, h2, h3⟩ | ⟨h, d, h1, h2, h3, h4, h5, h6⟩
        · rw [tp_tp] at h2
          exact Or.inl ⟨w, e, h1, h2, h3⟩
        · rw [tp_tp] at h5
          exact Or.inr ⟨h, d, h1, h2, h3, fun Q q1 q2 => h4 Q (fun u hu => q2 c u (q1 c rfl) hu) q2, h5, h6⟩
      · rw [if_neg (fun z => e0 (hcp.mp z)), ch e0, Option.bind_some]
        dsimp only
        by_cases e1 : cn p (tN T 2) = 1
        · rw [if_pos e1, e1, if_pos (show nI 1 = 1 from rfl)]
          cases hl : lst p (tN T 2) with
          | none => exact absurd (lst_n _ hl) e0
          | some d =>
            obtain ⟨ld, pd⟩ := lst_s _ _ hl
            rw [show oI (some d) = nI d from rfl, if_pos (nI_pos' (by omega)), y_av w1, Option.bind_some]
            rcases win d ((hP d).mp pd) with z | z
            · exact Or.inr z
            · omega
        · rw [if_neg e1, if_neg (show ¬ nI (cn p (tN T 2)) = 1 from fun z => e1 ((nI_eq (b := 1) (by omega) (by decide)).mp z)), if_neg (show ¬ nI (cn p (tN T 2)) ≤ 1 from nI_ge (a := 1) (by omega) (by omega))]
          by_cases e3 : cn q (tN T 2) = 1
          · rw [if_pos e3, e3, if_pos (show nI 1 = 1 from rfl)]
            cases hl : lst q (tN T 2) with
            | none => have := lst_n _ hl; omega
            | some d =>
              obtain ⟨ld, pd⟩ := lst_s _ _ hl
              rw [show oI (some d) = nI d from rfl, if_pos (nI_pos' (by omega)), y_av w1, Option.bind_some]
              rcases win d ((hP d).mp ((Bool.and_eq_true _ _).mp pd).1) with z | z
              · exact Or.inr z
              · omega
          · rw [if_neg e3, if_neg (show ¬ nI (cn q (tN T 2)) = 1 from fun z => e3 ((nI_eq (b := 1) (by omega) (by decide)).mp z))]
            by_cases e2 : cn q (tN T 2) = 0
            · rw [e2, if_pos (show nI 0 = 0 from rfl)]
              cases ha : an r (tN T 2) with
              | false =>
                rw [if_neg (show ¬ ((0 : Nat) = 0 ∧ false = true) from fun z => by cases z.2), if_pos (show b01 false = 0 by decide), if_neg (show ¬ (0 : Int32) ≤ -4 by decide)]
                exact Or.inl ⟨nI c, -4, Or.inr rfl, rfl, rfl⟩
              | true =>
                obtain ⟨d, hd, hr⟩ := (an_iff _).mp ha
                have hr' := (Bool.and_eq_true _ _).mp hr
                have en : nI d = na := of_decide_eq_true hr'.2
                rw [if_pos (show (0 : Nat) = 0 ∧ true = true from ⟨rfl, rfl⟩), if_neg (show ¬ b01 true = 0 by decide), ← en, if_pos (nI_pos' (by omega)), y_av w1, Option.bind_some]
                rcases win d ((hP d).mp hr'.1) with z | z
                · exact Or.inr z
                · omega
            · rw [if_neg (show ¬ (cn q (tN T 2) = 0 ∧ an r (tN T 2) = true) from fun z => e2 z.1), if_neg (show ¬ nI (cn q (tN T 2)) = 0 from fun z => e2 ((nI_eq (b := 0) (by omega) (by decide)).mp z)), if_neg (show ¬ (0 : Int32) ≤ -4 by decide)]
              exact Or.inl ⟨nI c, -4, Or.inr rfl, rfl, rfl⟩
theorem find_eq (hh : hI x A ab L O v sg rp T) (hp : pI T E O v sg rp) {a ty c : Nat} {qu na l3 : Int32} (rcS : q_S → Nat → Option Nat → Option Nat → Int32 → Option (q_S × Int32)) (ho : oN x a (nI ty) qu na) (hty : ty < 6) (hna : nam na ≠ 0) (hc : c < tN T 16) : (∃ w e, (e = -3 ∨ e = -4) ∧ jt_Mo_find T (nI c) (nI ty) qu na = some (tp T 37 w, e) ∧ jf_Wo_supplyNeed rcS x (A 4) (some (ab 9 c)) (some a) l3 = some (x, e)) ∨ ∃ h d, h < tN T 16 ∧ d < tN T 2 ∧ hs (T.2 18 (tV T 22 h)) d ∧ (∀ Q : Nat → Prop, Q c → (∀ c u, Q c → tO T 23 c = some u → Q u) → Q h) ∧ jt_Mo_find T (nI c) (nI ty) qu na = some (tp T 37 (nI h), nI d) ∧ jf_Wo_supplyNeed rcS x (A 4) (some (ab 9 c)) (some a) l3 = (jf_Wo_supply rcS x (A 4) (some (ab 9 h)) (nI d) l3).bind fun p26 => some (p26.1, p26.2) := by
  rcases find_L (l3 := l3) rcS ho hty hna 3 (some c) 0 lpK lpK T hh hp (chl_3 hp hc) (by omega) (by decide) (by decide) with ⟨w, e, h1, h2, h3⟩ | ⟨h, d, h1, h2, h3, h4, h5, h6⟩
  · exact Or.inl ⟨w, e, h1, h2, h3⟩
  · exact Or.inr ⟨h, d, h1, h2, h3, fun Q q1 q2 => h4 Q (fun c' hc' => by cases hc'; exact q1) q2, h5, h6⟩
end FD
