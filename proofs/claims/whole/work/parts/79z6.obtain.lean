/-! A context is obtained. -/
def tK (T T' : tT) : Prop := (∀ k, [0, 2, 11, 22].contains k = true → T'.1 k = T.1 k) ∧ ∀ t, [10, 11, 12, 13, 14, 15, 16, 17, 18, 19, 20, 100].contains t = true → T'.2 t = T.2 t
theorem tK.rf (T : tT) : tK T T := ⟨fun _ _ => rfl, fun _ _ => rfl⟩
theorem tK.tr {T T' T'' : tT} (h : tK T T') (g : tK T' T'') : tK T T'' := ⟨fun k hk => (g.1 k hk).trans (h.1 k hk), fun t ht => (g.2 t ht).trans (h.2 t ht)⟩
theorem in4 {k : Nat} (h : [0, 2, 11, 22].contains k = true) : [0, 2, 11, 16, 22].contains k = true ∧ k ≠ 16 := by
  have : k = 0 ∨ k = 2 ∨ k = 11 ∨ k = 22 := by simpa using h
  rcases this with rfl | rfl | rfl | rfl <;> exact ⟨by decide, by decide⟩
theorem in12 {t : Nat} (h : [10, 11, 12, 13, 14, 15, 16, 17, 18, 19, 20, 100].contains t = true) : [10, 11, 12, 13, 14, 15, 16, 17, 18, 19, 20, 22, 23, 100].contains t = true ∧ t ≠ 22 ∧ t ≠ 23 := by
  have : t = 10 ∨ t = 11 ∨ t = 12 ∨ t = 13 ∨ t = 14 ∨ t = 15 ∨ t = 16 ∨ t = 17 ∨ t = 18 ∨ t = 19 ∨ t = 20 ∨ t = 100 := by simpa using h
  rcases this with rfl | rfl | rfl | rfl | rfl | rfl | rfl | rfl | rfl | rfl | rfl | rfl <;> exact ⟨by decide, by decide, by decide⟩
theorem tZ.k {T T' : tT} (h : tZ T T') : tK T T' := ⟨fun k hk => h.1 k (in4 hk).1, fun t ht => h.2 t (in12 ht).1⟩
theorem tK_cx (T : tT) (c κ : Nat) (po : Option Nat) : tK T (tCx T c κ po) := ⟨fun k hk => if_neg (in4 hk).2, fun t ht => by
  show (if t = 23 then _ else if t = 22 then _ else T.2 t) = T.2 t
  rw [if_neg (in12 ht).2.2, if_neg (in12 ht).2.1]⟩
theorem tK.n {T T' : tT} (h : tK T T') {k : Nat} (hk : [0, 2, 11, 22].contains k = true) : tN T' k = tN T k := by unfold tN; rw [h.1 k hk]
theorem tK.o {T T' : tT} (h : tK T T') {t : Nat} (ht : [10, 11, 12, 13, 14, 15, 16, 17, 18, 19, 20, 100].contains t = true) (i : Nat) : tO T' t i = tO T t i := by unfold tO tV; rw [h.2 t ht]
def itr (T : tT) (rp : Nat → Nat) : Nat → Nat → Nat → Prop
  | 0, a, κ => a = κ
  | s + 1, a, κ => a < tN T 11 ∧ ∃ b, (tO T 20 a).map rp = some b ∧ itr T rp s b κ
def obO (A : Nat → Nat) (rp : Nat → Nat) (E κ a b : Nat) (O : List Nat) (x : q_S) (T : tT) (ab : Nat → Nat → Nat) (o : Option (q_S × Int32)) (t : tT → Int32 → Prop) : Prop :=
  ∃ y rr T' ab' L' O' v' sg' E', o = some (y, rr) ∧ t T' rr ∧ hP y A ab' L' O' v' sg' rp T' E' none ∧ E' ≤ E ∧ tK T T' ∧ (∀ i, ab' 8 i = ab 8 i) ∧ cFr x y ∧ tN T 23 ≤ tN T' 23 ∧ q_sz y + 3 * tN T 23 ≤ q_sz x + 3 * tN T' 23 + a ∧ q_sl y + 2000 * tN T 23 ≤ q_sl x + 2000 * tN T' 23 + b ∧ ((∃ c, rr = nI c ∧ c ∈ O' ∧ tV T' 22 c = κ ∧ (∀ w, w ∈ O' → (∃ s, itr T rp s κ (tV T' 22 w)) ∨ ∃ w0, w0 ∈ O ∧ tV T' 22 w = tV T 22 w0) ∧ T'.2 21 = T.2 21) ∨ rr < -1)
section OB
variable {x y : q_S} {A : Nat → Nat} {T : tT} {E : Nat} {ab : Nat → Nat → Nat} {L : Nat → Option (List Nat)} {O : List Nat} {v sg : Nat → Nat → Int32} {rp : Nat → Nat}
set_option maxHeartbeats 4000000 in
theorem build_eq {κ : Nat} {po : Option Nat} (hh : hP x A ab L O v sg rp T E none) (hE : E + 2000 ≤ 1000000000) (hκ : κ < tN T 11) (hrκ : rp κ = κ) (h2 : tV T 21 κ < 2) (hpo : ∀ u, po = some u → u ∈ O) (hpk : po.map (tV T 22) = (tO T 20 κ).map rp) (huq : ∀ w, w ∈ O → tV T 22 w ≠ κ) : obO A rp (E + 1600) κ 75 2400 O x T ab (jf_Sh_build x (A 5) (some (ab 8 κ)) (po.map (ab 9))) (fun T' rr => jt_Mo_build T (nI κ) (oI po) = some (T', rr)) := by
  have hO : ∀ w, w ∈ O → w < tN T 16 := fun w hw => (hh.lt hw).1
  have hh0 := hh
  obtain ⟨hi, hp, hq⟩ := hh
  have h30 := hp.1.2.2.1.2
  have h8 := hp.1.2.1.2
  have h10 := hp.1.1.2
  have hr1 := hp.2.2.2.2.2.2.1
  have e16 : tf T 16 = nI (tN T 16) := hp.1.2.2.1.1
  obtain ⟨⟨kn, ⟨-, -, -, -, ⟨s1, s2, s3, s4, s5, s6⟩, -⟩, hR⟩, ⟨hJ, hw, l2, l7, l9, l10, l11, -⟩, -⟩ := id hi
  obtain ⟨i10', -, hl⟩ := hJ.1 _ _ l10
  have lS := L_size i10'
  rw [ls_len] at lS
  unfold jf_Sh_build jt_Mo_build
  rw [y_gRs s1 s5, Option.bind_some, y_av i10'.1, Option.bind_some, lS, Option.bind_some, e16]
  dsimp only
  by_cases hfull : tN T 16 = 30
  · rw [hfull, if_neg (show ¬ nI 30 < 30 by decide), if_pos (show nI 30 = 30 from rfl)]
    exact ⟨x, -7, T, ab, L, O, v, sg, E, rfl, rfl, hh0, by omega, tK.rf T, fun _ => rfl, cFr.rf x, Nat.le_refl _, by omega, by omega, Or.inr (by decide)⟩
  · have hc30 : tN T 16 < 30 := by omega
    rw [if_pos (show nI (tN T 16) < 30 from nI_lt (b := 30) hc30 (by decide)), if_neg (show ¬ nI (tN T 16) = 30 from fun z => by have := (nI_eq (b := 30) (by omega) (by decide)).mp z; omega)]
    have z101 := (hp.2.2.2.2.1.2 (tN T 16) (Nat.le_refl _)).1
    -- the class
    have hnO : ∃ x8, q_nO x 9 jdv_9 = some x8 ∧ uN x x8 9 jdv_9 := ⟨_, rfl, ⟨rfl, rfl, rfl, rfl, rfl, fun _ _ => rfl, fun _ _ _ => rfl⟩⟩
    obtain ⟨x8, e8, u8⟩ := hnO
    have w8 := wf_uN hw u8
    have J8 := jL_uN hJ u8 (by decide)
    have al8 : q_al x8 9 (q_sz x) = true := by rw [u8.2.2.2.2.2.1, if_pos ⟨rfl, rfl⟩]
    have i8 := (J8.1 _ _ l10).1
    have lS8 := L_size i8
    rw [ls_len] at lS8
    have U8 : ∀ c' a', q_al x c' a' = true → un x x8 c' a' := fun c' a' h => un_uN u8 (fun z => by have := al_lt hw h; omega)
    have S8 := U8 5 (A 5) s1
    have s18 := S8.1 s1
    have s58 : q_fd x8 5 3 (A 5) = .ref (A 10) := by rw [S8.2]; exact s5
    obtain ⟨y1, g, c1, c2, c3, c4, c5, c6, c7, c8, c9, d0, d1, d2, d3, d4, d5, d6⟩ := ci_eq (nu := nI (tN T 16)) (ke := ab 8 κ) (pa := po.map (ab 9)) al8 J8 w8
    have U1 : ∀ c' a', q_al x c' a' = true → un x y1 c' a' := fun c' a' h => (U8 c' a' h).tr (c5 c' a' (fun z => by have := al_lt hw h; omega))
    have S1 := U1 5 (A 5) s1
    have s11 := S1.1 s1
    have s51 : q_fd y1 5 3 (A 5) = .ref (A 10) := by rw [S1.2]; exact s5
    have i1 := (c2.1 _ _ l10).1
    have al1 : q_al y1 9 (q_sz x) = true := by rw [c6]; exact al8
    obtain ⟨y2, r1, r2, r3⟩ := L_add c2 l10 c3 (q_ok_c al1 (by decide)) (by rw [ls_len]; omega)
    have U2 : ∀ c' a', c' ≠ 2 → q_al x c' a' = true → un x y2 c' a' := fun c' a' hc h => (U1 c' a' h).tr (un_oL r3 hc)
    have ai2 : ∀ t b, q_ai x t b ≠ none → q_ai y2 t b = q_ai x t b := fun t b hn => by
      have e : q_ai x8 t b = q_ai x t b := by rw [u8.2.2.1]
      rw [r3.2.1, c7 t b (by rw [e]; exact hn), e]
    have sz8 : q_sz x8 = q_sz x + 1 := u8.1
    have sl8 : q_sl x8 = q_sl x + 7 := by rw [u8.2.1]; rfl
    have V := un_oL (a := q_sz x) (d := 9) r3 (by decide)
    have df : ∀ j, 4 ≤ j → q_fd y2 9 j (q_sz x) = jdv_9.getD j .null := fun j hj => by
      rw [V.2, d4 j hj, u8.2.2.2.2.2.2, if_pos ⟨rfl, rfl⟩]
    have oc : oC y2 (q_sz x) (nI (tN T 16)) (ab 8 κ) (po.map (ab 9)) (q_sz x8) 0 0 0 := ⟨V.1 al1, (V.2 0).trans d0, (V.2 1).trans d1, (V.2 2).trans d2, (V.2 3).trans d3, (df 4 (by decide)).trans rfl, (df 5 (by decide)).trans rfl, (df 6 (by decide)).trans rfl⟩
    have hpoc : ∀ u, po = some u → u < tN T 16 := fun u hu => hO u (hpo u hu)
    have H2 := hI_cx (κ := κ) (s := q_sz x8) hi hp rfl hc30 hκ hpoc z101 (Nat.le_refl _) (by omega) r2 r3.2.2.2.2.2.2.2.2 (if_pos rfl) (fun q hq => if_neg hq) U2 ai2 oc (by rw [r3.2.1]; exact d5)
    have P2 := pI_cx (κ := κ) (g := g) hp rfl hc30 hκ hrκ hpoc hpk d6
    have Q2 := qF_cx (κ := κ) (po := po) (qF_to hq) rfl hc30 z101
    have K2 := tK_cx T (tN T 16) κ po
    have m16 : tN (tCx T (tN T 16) κ po) 16 = tN T 16 + 1 := nI_clamp (n := tN T 16 + 1) (by omega)
    have m2 : tN (tCx T (tN T 16) κ po) 2 = tN T 2 := rfl
    have m23 : tN (tCx T (tN T 16) κ po) 23 = tN T 23 := rfl
    have t22 : tV (tCx T (tN T 16) κ po) 22 (tN T 16) = κ := by
      show (upd (T.2 22) (tN T 16) (nI κ) (tN T 16)).toNatClampNeg = κ
      rw [upd_s, nI_clamp (by omega)]
    have u22 : ∀ w, w < tN T 16 → tV (tCx T (tN T 16) κ po) 22 w = tV T 22 w := fun w hw => by
      show (upd (T.2 22) (tN T 16) (nI κ) w).toNatClampNeg = _
      rw [upd_n (by omega)]
    have t23 : tO (tCx T (tN T 16) κ po) 23 (tN T 16) = po := tO_of (show upd (T.2 23) (tN T 16) (oI po) (tN T 16) = oI po from upd_s) (fun n hn => by have := hpoc n hn; omega)
    have r21 : (tCx T (tN T 16) κ po).2 21 = T.2 21 := rfl
    have tE : (tpi T 16 (nI (tN T 16) + 1)).bind (fun T1 => (tw T1 22 30 (nI (tN T 16)) (nI κ)).bind fun T4 => (tw T4 23 30 (nI (tN T 16)) (oI po)).bind fun T7 => jt_Mo_build_L44 lpK T7 (nI κ) (nI (tN T 16)) 0) = jt_Mo_build_L44 lpK (tCx T (tN T 16) κ po) (nI κ) (nI (tN T 16)) (nI 0) := by
      dsimp only [tpi]
      rw [Option.bind_some, tw_n (by omega) (by decide), Option.bind_some, tw_n (by omega) (by decide), Option.bind_some, nI_1]
      rfl
    rw [tE]
    generalize tCx T (tN T 16) κ po = T1 at H2 P2 Q2 K2 m16 m2 m23 t22 u22 t23 r21 ⊢
    have h200 := P2.1.2.2.2.1.2
    have b9 : adb (adb ab 9 (tN T 16) (q_sz x)) 12 (tN T 16) (q_sz x8) 9 (tN T 16) = q_sz x := by rw [adb_n (fun z => by cases z.1), adb_s]
    have a8 : ∀ i, adb (adb ab 9 (tN T 16) (q_sz x)) 12 (tN T 16) (q_sz x8) 8 i = ab 8 i := fun i => by rw [adb_n (fun z => by cases z.1), adb_n (fun z => by cases z.1)]
    have BD := bld_L (E0 := E) (c := tN T 16) (κ := κ) hE (tN T1 2) 0 lpK lpK y2 T1 _ _ _ (Nat.zero_add _) (by unfold lpK; omega) (by decide) H2 (P2.mono (by omega) (by omega)) Q2 (by omega) t22 (by unfold tV; rw [r21]; exact h2) (fun u hu => hpo u (by rw [← t23]; exact hu)) (fun w hw => by rw [u22 w (hO w hw)]; exact huq w hw)
    rw [b9, a8] at BD
    rw [e8, Option.bind_some, y_gRs s18 s58, Option.bind_some, y_av i8.1, Option.bind_some, lS8, Option.bind_some]
    dsimp only
    rw [c1, Option.bind_some]
    dsimp only
    rw [y_gRs s11 s51, Option.bind_some, y_av i1.1, Option.bind_some, r1, Option.bind_some]
    dsimp only
    obtain ⟨y, rr, T', ab', L', O', v', sg', E', p1, p2, p3, p4, p5, p6, p7, p8, p9, p10, p11⟩ := BD
    have sz2 := r3.2.2.2.2.2.1
    have sl2 := r3.2.2.2.2.2.2.2.1
    refine ⟨y, rr, T', ab', L', O', v', sg', E', p1, p2, p3, p4, K2.tr p5.k, fun i => (p6 i).trans (a8 i), (((cFr_uN u8 (by decide)).tr c4).tr (cFr_oL r3)).tr p7, by omega, by omega, by omega, ?_⟩
    rcases p11 with ⟨t1, t2, t3, t4⟩ | t
    · refine Or.inl ⟨tN T 16, t1, t2, (p5.v (by decide) _).trans t22, fun w hw => ?_, t4.trans r21⟩
      rcases t3 w hw with z | z
      · exact Or.inr ⟨w, z, (p5.v (by decide) w).trans (u22 w (hO w z))⟩
      · rw [z]; exact Or.inl ⟨0, ((p5.v (by decide) _).trans t22).symm⟩
    · exact Or.inr t
/-- depth of a key -/
def kd (T : tT) (rp : Nat → Nat) : Nat → Option Nat → Prop
  | 0, o => o = none
  | n + 1, o => ∀ κ, o = some κ → κ < tN T 11 ∧ rp κ = κ ∧ kd T rp n ((tO T 20 κ).map rp)
theorem kd_c {T T' : tT} (h : tK T T') : ∀ (n : Nat) (o : Option Nat), kd T rp n o → kd T' rp n o
  | 0, _, z => z
  | n + 1, _, z => fun κ hκ => by
    obtain ⟨a, b, c⟩ := z κ hκ
    refine ⟨by rw [h.n (by decide)]; exact a, b, ?_⟩
    rw [h.o (by decide)]
    exact kd_c h n _ c
theorem itr_c {T T' : tT} (h : tK T T') : ∀ (s a κ : Nat), itr T rp s a κ → itr T' rp s a κ
  | 0, _, _, z => z
  | s + 1, a, κ, ⟨z1, b, z2, z3⟩ => ⟨by rw [h.n (by decide)]; exact z1, b, by rw [h.o (by decide)]; exact z2, itr_c h s b κ z3⟩
theorem itr_s {κ π : Nat} (hκ : κ < tN T 11) (h : (tO T 20 κ).map rp = some π) : ∀ (s a : Nat), itr T rp s a κ → itr T rp (s + 1) a π
  | 0, a, z => by cases (show a = κ from z); exact ⟨hκ, π, h, rfl⟩
  | s + 1, a, ⟨z1, b, z2, z3⟩ => ⟨z1, b, z2, itr_s hκ h s b z3⟩
theorem kk_rr (hk : kI T rp (tN T 11)) {j : Nat} (hj : j < tN T 11) : (tO T 20 (rp j)).map rp = (tO T 20 j).map rp := by
  have k4 := hk.2.2.2.2.1 j hj
  exact ((hk.2.2.2.2.2 (rp j) j (by omega) hj).mp k4.2).2.2
theorem kd_3 (hk : kI T rp (tN T 11)) {κ : Nat} (hκ : κ < tN T 11) (hr : rp κ = κ) : kd T rp 3 (some κ) := by
  intro κ' h
  cases h
  refine ⟨hκ, hr, fun π hπ => ?_⟩
  cases hq : tO T 20 κ with
  | none => rw [hq] at hπ; cases hπ
  | some q =>
    rw [hq] at hπ
    have lq := hk.2.2.1 κ q hκ hq
    have k4 := hk.2.2.2.2.1 q (by omega)
    have e : π = rp q := (Option.some.inj hπ).symm
    subst e
    refine ⟨by omega, k4.2, fun ρ hρ => ?_⟩
    rw [kk_rr hk (by omega)] at hρ
    cases hr2 : tO T 20 q with
    | none => rw [hr2] at hρ; cases hρ
    | some r =>
      rw [hr2] at hρ
      have lr := hk.2.2.1 q r (by omega) hr2
      have k5 := hk.2.2.2.2.1 r (by omega)
      have e : ρ = rp r := (Option.some.inj hρ).symm
      subst e
      refine ⟨by omega, k5.2, ?_⟩
      show (tO T 20 (rp r)).map rp = none
      rw [kk_rr hk (by omega), hk.2.2.2.1 κ q r hκ hq hr2]
      rfl
theorem kd_ne (hk : kI T rp (tN T 11)) {κ π : Nat} (hκ : κ < tN T 11) (h : (tO T 20 κ).map rp = some π) : π ≠ κ := fun e => by
  cases hq : tO T 20 κ with
  | none => rw [hq] at h; cases h
  | some q =>
    rw [hq] at h
    have e1 : rp q = π := Option.some.inj h
    have lq := hk.2.2.1 κ q hκ hq
    have h1 := kk_rr hk (j := q) (by omega)
    rw [e1, e, hq] at h1
    cases hr : tO T 20 q with
    | none => rw [hr] at h1; cases h1
    | some r =>
      rw [hr] at h1
      have e2 : rp q = rp r := Option.some.inj h1
      have lr := hk.2.2.1 q r (by omega) hr
      have h2 := kk_rr hk (j := r) (by omega)
      rw [← e2, e1, e, hq, hk.2.2.2.1 κ q r hκ hq hr] at h2
      cases h2
theorem kd_itr : ∀ (s n a κ : Nat), itr T rp s a κ → kd T rp n (some a) → ∃ n', n' + s = n ∧ kd T rp n' (some κ)
  | 0, n, a, κ, h, hk => by cases (show a = κ from h); exact ⟨n, rfl, hk⟩
  | s + 1, n, a, κ, ⟨_, b, h2, h3⟩, hk => by
    cases n with
    | zero => cases (show some a = none from hk)
    | succ n =>
      have := (hk a rfl).2.2
      rw [h2] at this
      obtain ⟨n', e1, e2⟩ := kd_itr s n b κ h3 this
      exact ⟨n', by omega, e2⟩
theorem kd_acy : ∀ (n s κ : Nat), kd T rp n (some κ) → ¬ itr T rp (s + 1) κ κ := by
  intro n
  induction n using Nat.strongRecOn with
  | _ n ih =>
    intro s κ hk h
    obtain ⟨n', e1, e2⟩ := kd_itr (s + 1) n κ κ h hk
    exact ih n' (by omega) s κ e2 h
theorem pky_eq (hk : kI T rp (tN T 11)) (e11 : T.1 11 = nI (tN T 11)) {κ : Nat} (hκ : κ < tN T 11) : jt_Mo_parentKey T (nI κ) = some (T, oI ((tO T 20 κ).map rp)) := by
  have h8 := hk.1
  unfold jt_Mo_parentKey
  rw [tl_n (by omega) (by decide), Option.bind_some, hk.2.1 κ hκ]
  cases hq : tO T 20 κ with
  | none => rw [if_neg (show ¬ 0 ≤ oI none by decide)]; rfl
  | some q =>
    have lq := hk.2.2.1 κ q hκ hq
    rw [if_pos (show 0 ≤ oI (some q) from nI_pos' (by omega)), Option.bind_some, show oI (some q) = nI q from rfl, key_eq hk e11 (by omega), Option.bind_some]
    rfl
theorem L131_eq (hk : kI T rp (tN T 11)) (e11 : T.1 11 = nI (tN T 11)) (kk : tT → Int32 → Int32 → Int32 → Int32 → Int32 → Option (tT × Int32)) (l1 l5 : Int32) : ∀ (s a κ j m : Nat), itr T rp s a κ → s < m → j + s < 100 → jt_Mo_obtain_L131 kk m T l1 l5 (nI (j + s)) (nI a) (nI j) = kk T l1 l5 (nI (j + s)) (nI κ) (nI (j + s)) := by
  intro s
  induction s with
  | zero =>
    intro a κ j m h hm hb
    cases (show a = κ from h)
    obtain ⟨m, rfl⟩ : ∃ m', m = m' + 1 := ⟨m - 1, by omega⟩
    show jt_Mo_obtain_B131 kk (jt_Mo_obtain_L131 kk m) T l1 l5 (nI j) (nI a) (nI j) = _
    unfold jt_Mo_obtain_B131
    rw [if_pos (nI_le (Nat.le_refl j) (by omega))]
    rfl
  | succ s ih =>
    intro a κ j m h hm hb
    obtain ⟨m, rfl⟩ : ∃ m', m = m' + 1 := ⟨m - 1, by omega⟩
    obtain ⟨h1, b, h2, h3⟩ := h
    show jt_Mo_obtain_B131 kk (jt_Mo_obtain_L131 kk m) T l1 l5 (nI (j + (s + 1))) (nI a) (nI j) = _
    unfold jt_Mo_obtain_B131
    rw [if_neg (nI_ge (a := j) (by omega) (by omega)), pky_eq hk e11 h1, Option.bind_some, h2, nI_1]
    have := ih b κ (j + 1) m h3 (by omega) (by omega)
    rw [show j + 1 + s = j + (s + 1) by omega] at this
    exact this
theorem cxo_eq (hh : hP x A ab L O v sg rp T E none) {κ : Nat} (hκ : κ < tN T 11) (hr : rp κ = κ) : ∃ o, isCx T O κ o ∧ jt_Mo_contextOf T (nI κ) = some (T, oI o) ∧ jf_Sh_cachedFor x (A 5) (some (ab 8 κ)) = some (x, o.map (ab 9)) := by
  have h6 := hh.len
  obtain ⟨hi, hp, hq⟩ := hh
  have h30 := hp.1.2.2.1.2
  have h8 := hp.1.2.1.2
  obtain ⟨o, ho, e1⟩ := ctx_L hp (k := κ) (by omega) lpK (tN T 16) 0 (Nat.zero_add _) (by unfold lpK; omega) (fun c hc => absurd hc (Nat.not_lt_zero c))
  obtain ⟨p, hpp, e2⟩ := cxf_L hi hp hκ lpK O.length 0 (Nat.zero_add _) (by unfold lpK; omega) (fun p c hc => absurd hc (Nat.not_lt_zero p))
  rw [hr] at hpp
  have e := isCx_u ho hpp
  subst e
  exact ⟨o, ho, e1, e2⟩
theorem usek {c : Nat} (hh : hP x A ab L O v sg rp T E none) (hE : E + 3 ≤ 1000000000) (hc : c ∈ O) : ∃ y T' L' O', jf_Sh_use x (A 5) (some (ab 9 c)) = some (y, ()) ∧ jt_Mo_use T (nI c) = some (T', ()) ∧ hP y A ab L' O' v sg rp T' (E + 3) none ∧ (∀ w, w ∈ O' ↔ w ∈ O) ∧ tU T T' ∧ cFr x y ∧ q_sz y ≤ q_sz x + 3 ∧ q_sl y ≤ q_sl x + 120 := by
  have h6 := hh.len
  obtain ⟨hcn, hck, -⟩ := hh.lt hc
  obtain ⟨hi, hp, hq⟩ := hh
  obtain ⟨hr1, hr2, hr3, hr4⟩ := hp.2.2.2.2.2.2
  obtain ⟨y, T', L', R, a1, a2, a3, a4, a5, a6, a7, a8, a9, a10⟩ := use_eq hi ⟨hp.1, hp.2.1, hp.2.2.1, hp.2.2.2.1, hp.2.2.2.2.1, hp.2.2.2.2.2.1⟩ hE hcn (chl_3 hp hcn) (fun w hw => ((hr1 w).mp hw).1) hr2 h6
  have Y := a7.y
  have n16 : tN T' 16 = tN T 16 := Y.n (by decide)
  have r101 : T'.2 101 = T.2 101 := a7.2 101 (by decide)
  have mem : ∀ w, w ∈ cl T 3 (some c) ++ R ↔ w ∈ O := fun w => by
    rw [List.mem_append, a6]
    constructor
    · rintro (z | z)
      · rcases cl_up w z with z | z
        · rw [z]; exact hc
        · have := isUp_lt hp hcn z
          exact (hr1 w).mpr ⟨by omega, up_kept hp hcn hck z⟩
      · exact z.1
    · intro z
      by_cases hz : w ∈ cl T 3 (some c)
      · exact Or.inl hz
      · exact Or.inr ⟨z, hz⟩
  have len : (cl T 3 (some c) ++ R).length = O.length := ((List.perm_ext_iff_of_nodup (srt_nd a5) (srt_nd hr2)).mpr mem).length_eq
  refine ⟨y, T', L', _, a1, a2, ⟨a3, ⟨a4.1, a4.2.1, a4.2.2.1, a4.2.2.2.1, a4.2.2.2.2.1, a4.2.2.2.2.2, fun w => ?_, a5, by rw [len, Y.n (by decide)]; exact hr3, fun a b ha hb e => ?_⟩, fun c' hc' => ?_⟩, mem, a7, a8, a9, a10⟩
  · rw [mem w, n16, r101]; exact hr1 w
  · rw [Y.v (t := 22) (by decide), Y.v (t := 22) (by decide)] at e
    exact hr4 a b ((mem a).mp ha) ((mem b).mp hb) e
  · rw [n16] at hc'
    rw [r101]
    exact hq c' hc'
end OB
