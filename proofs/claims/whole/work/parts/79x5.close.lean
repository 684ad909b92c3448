section CQ
variable {x y : q_S} {A : Nat → Nat} {T : tT} {E : Nat} {ab : Nat → Nat → Nat} {L L' : Nat → Option (List Nat)} {O O' : List Nat} {v sg : Nat → Nat → Int32} {rp : Nat → Nat} {fo : Option Nat}
theorem mid_eq {c n : Nat} (hh : hP x A ab L O v sg rp T E fo) (hE : E + 201 * O.length ≤ 1000000000) (hc : c ∈ O) (hlf : ∀ d, d ∈ O → tO T 23 d = some c → ∀ e, e ∈ O → tO T 23 e ≠ some d) : ∃ y T1 T' L' O' v' E' k, jg_Sh_close (n + 2) x (A 5) (some (ab 9 c)) = some (y, nI (k + 1)) ∧ (∀ kk l1 l2, ((jt_Mo_child T (nI c)).bind fun p => jt_Mo_close_L19 kk lpK p.1 l1 l2 (nI c) p.2) = kk T1 l1 (l2 + nI k) (nI c) (-1)) ∧ jt_Mo_closeOne T1 (nI c) = some (T', ()) ∧ clR x A ab sg rp fo T O v E y T' L' O' v' E' ∧ c ∉ O' ∧ (∀ w, w ∈ O → w ≠ c → tO T 23 w ≠ some c → w ∈ O') := by
  have hcn := (hh.lt hc).1
  have h30 := hh.2.1.1.2.2.1.2
  have hx := hh.2.1.2.2.2.2.1
  obtain ⟨y1, T1, L1, O1, v1, E1, k, r1, r2, r3, r4, r5⟩ := inn_L (n := n) (tN T 16 + 1) (tN T 16) (by omega) x T L O v E hh hc hlf (fun d hd _ => (hh.lt hd).1) hcn (Nat.le_refl _) hE lpK lpK 1 (by unfold lpK; omega) (by unfold lpK; omega)
  obtain ⟨q1, q2, q3, q4, q5, q6⟩ := id r3
  have cO1 : c ∈ O1 := r5 c hc (fun z => by have := ((hx.1 c hcn).2.1.2 c z).1; omega)
  have hOl : 0 < O1.length := List.length_pos_of_mem cO1
  obtain ⟨y, T', L', O', c1, c2, c3, c4, c5, c6, c7, c8, c9, c10⟩ := clo_eq q1 (by omega) cO1 r4 (1 + nI k)
  refine ⟨y, T1, T', L', O', _, E1 + 201, k, ?_, r2, c2, r3.tr ⟨c3, c4, c7, fun k c' hk => upv_n (fun z => hk z.1), by omega, c8, c9, c10⟩, fun z => ((c5 c).mp z).2 rfl, fun w hw hwc hwp => (c5 w).mpr ⟨r5 w hw hwp, hwc⟩⟩
  rw [jg_cl hh, r1, c1, Nat.add_comm k 1, ← nI_add]
  rfl
theorem L8_s {m : Nat} {l1 l2 l3 : Int32} : jt_Mo_close_L8 (m + 1) T l1 l2 l3 = if l3 < 0 then (jt_Mo_closeOne T l1).bind fun p4 => some (p4.1, l2) else (jt_Mo_child T l3).bind fun p7 => jt_Mo_close_L19 (fun y17 l1_17 l2_17 l3_17 l4_17 => (jt_Mo_closeOne y17 l3_17).bind fun p18 => (jt_Mo_child p18.1 l1_17).bind fun p21 => jt_Mo_close_L8 m p21.1 l1_17 (l2_17 + 1) p21.2) lpK p7.1 l1 l2 l3 p7.2 := rfl
set_option maxHeartbeats 2000000 in
theorem out_L {c n : Nat} : ∀ (f i : Nat), i < f → ∀ (x : q_S) (T : tT) (L : Nat → Option (List Nat)) (O : List Nat) (v : Nat → Nat → Int32) (E : Nat), hP x A ab L O v sg rp T E fo → c ∈ O → (∀ d, d ∈ O → tO T 23 d = some c → d < i) → c < i → i ≤ tN T 16 → E + 201 * O.length ≤ 1000000000 → ∀ (m m2 : Nat) (s : Int32), i < m → i < m2 → ∃ y T' L' O' v' E' k, jf_Sh_close_L12 (jg_Sh_close (n + 2)) m x (A 5) (some (ab 9 c)) s (nI i - 1) = kCl y (A 5) (some (ab 9 c)) (s + nI k) ∧ ((jt_Mo_child T (nI c)).bind fun p => jt_Mo_close_L8 m2 p.1 (nI c) s p.2) = ((jt_Mo_closeOne T' (nI c)).bind fun p4 => some (p4.1, s + nI k)) ∧ clR x A ab sg rp fo T O v E y T' L' O' v' E' ∧ (∀ d, d ∈ O' → tO T' 23 d ≠ some c) ∧ (∀ w, w ∈ O → ¬ isUp T c w → w ∈ O') := by
  intro f
  induction f with
  | zero => intro i h; omega
  | succ f ih =>
    intro i hf x T L O v E hh hc hmx hci hin hE m m2 s hm hm2
    have hcn := (hh.lt hc).1
    have h30 := hh.2.1.1.2.2.1.2
    have hx := hh.2.1.2.2.2.2.1
    obtain ⟨m2, rfl⟩ : ∃ m', m2 = m' + 1 := ⟨m2 - 1, by omega⟩
    obtain ⟨o, ho, e1⟩ := chl_eq hh.2.1 hcn
    cases o with
    | none =>
      have hn := ho.2 rfl
      obtain ⟨m', -, e⟩ := scn' (i := i) (j := c + 1) (m := m) (s := s) hh hcn (jg_Sh_close (n + 2)) (fun d _ _ => hn d) (by omega) (by omega) hin hm
      refine ⟨x, T, L, O, v, E, 0, by rw [e, end_eq hh hcn]; rw [show nI 0 = (0 : Int32) from rfl, Int32.add_zero], ?_, ⟨hh, tB.rf T, List.Sublist.refl O, fun _ _ _ => rfl, Nat.le_refl _, cFr.rf x, rfl, rfl⟩, fun d hd z => hn d ⟨hd, z⟩, fun w hw _ => hw⟩
      rw [e1, Option.bind_some, L8_s, if_pos (show oI none < 0 by decide), show nI 0 = (0 : Int32) from rfl, Int32.add_zero]
    | some d =>
      obtain ⟨hdO, hdp, hdm⟩ := ho.1 d rfl
      have hdi := hmx d hdO hdp
      have hdn := (hh.lt hdO).1
      have hcd := ((hx.1 d hdn).2.1.2 c hdp).1
      obtain ⟨m', hm', e⟩ := scn' (i := i) (j := d + 1) (m := m) (s := s) hh hcn (jg_Sh_close (n + 2)) (fun e h1 _ => hdm e (by omega)) (by omega) (by omega) hin hm
      obtain ⟨y1, T0, T1, L1, O1, v1, E1, k1, f1, f2, f2', f3, f4, f5⟩ := mid_eq (n := n) hh hE hdO (fun a ha hap g hg hgp => by
        have := top3 hh.2.1 (hh.lt hg).1 hgp hap
        rw [hdp] at this; cases this)
      obtain ⟨f31, f32, f33, f34, f35, f36⟩ := id f3
      have cO1 : c ∈ O1 := f5 c hc (by omega) (fun z => by have := ((hx.1 c hcn).2.1.2 d z).1; omega)
      have n16 : tN T1 16 = tN T 16 := f32.n (by decide)
      obtain ⟨y, T', L', O', v', E', k, r1, r2, r3, r4, r5⟩ := ih d (by omega) y1 T1 L1 O1 v1 E1 f31 cO1 (fun a ha hap => by
        rw [f32.o] at hap
        have a1 := f33.subset ha
        by_cases h : d < a
        · exact absurd ⟨a1, hap⟩ (hdm a h)
        · by_cases h2 : a = d
          · rw [h2] at ha; exact absurd ha f4
          · omega) hcd (by omega) (by omega) m' m2 (s + nI (k1 + 1)) (by omega) (by omega)
      have es : s + nI (k1 + 1) + nI k = s + nI (k1 + 1 + k) := by rw [Int32.add_assoc, nI_add]
      refine ⟨y, T', L', O', v', E', k1 + 1 + k, ?_, ?_, f3.tr r3, r4, fun w hw hwp => r5 w (f5 w hw (fun z => hwp (Or.inl (by rw [z]; exact hdp))) (fun z => hwp (Or.inr ⟨d, z, hdp⟩))) (fun z => hwp ?_)⟩
      · rw [e]
        obtain ⟨⟨kn, ⟨-, -, -, -, ⟨s1, s2, s3, s4, s5, s6⟩, -⟩, hR⟩, ⟨hJ, hw, l2, l7, l9, l10, -⟩, -, -, hCC, -⟩ := hh.1
        obtain ⟨i10', -, hl⟩ := hJ.1 _ _ l10
        obtain ⟨⟨g1, g2, -⟩, -⟩ := hCC.1 c hcn
        obtain ⟨⟨o1, o2, o3, o4, o5, o6, o7, o8⟩, -⟩ := hCC.1 d hdn
        unfold jf_Sh_close_B12
        rw [nI_pred, y_gI g1 g2, Option.bind_some, if_neg (nI_ge (a := c) (by omega) (by omega)), y_gRs s1 s5, Option.bind_some, y_av i10'.1, Option.bind_some, L_get i10' hl (by rw [ls_len]; exact hdn), ls_get hdn, Option.bind_some]
        dsimp only
        rw [y_ck o1, Option.bind_some, y_gI o1 o7, Option.bind_some, nI_dec, if_neg (by rw [(hh.lt hdO).2.1]; decide), y_gR o1 o4, Option.bind_some, if_pos ((par_eq hh hcn hdn).mpr hdp), y_av s1, Option.bind_some, f1, Option.bind_some]
        dsimp only
        rw [r1, es]
      · have e2 : s + nI k1 + 1 = s + nI (k1 + 1) := by rw [Int32.add_assoc, ← nI_add]; rfl
        rw [e1, Option.bind_some, L8_s, if_neg (show ¬ oI (some d) < 0 from nI_pos (by omega)), show oI (some d) = nI d from rfl, f2, f2', Option.bind_some, e2, r2, es]
      · rcases z with z | ⟨u, z1, z2⟩
        · rw [f32.o] at z; exact Or.inl z
        · rw [f32.o] at z1 z2; exact Or.inr ⟨u, z1, z2⟩
theorem close_eq {c n : Nat} (hh : hP x A ab L O v sg rp T E fo) (hE : E + 201 * O.length ≤ 1000000000) (hc : c ∈ O) : ∃ y T' L' O' v' E' r, jg_Sh_close (n + 3) x (A 5) (some (ab 9 c)) = some (y, r) ∧ jt_Mo_close T (nI c) = some (T', r) ∧ clR x A ab sg rp fo T O v E y T' L' O' v' E' ∧ c ∉ O' ∧ (∀ w, w ∈ O → w ≠ c → ¬ isUp T c w → w ∈ O') := by
  have hcn := (hh.lt hc).1
  have h30 := hh.2.1.1.2.2.1.2
  obtain ⟨y1, T1, L1, O1, v1, E1, k, r1, r2, r3, r4, r5⟩ := out_L (n := n) (tN T 16 + 1) (tN T 16) (by omega) x T L O v E hh hc (fun d hd _ => (hh.lt hd).1) hcn (Nat.le_refl _) hE lpK lpK 1 (by unfold lpK; omega) (by unfold lpK; omega)
  obtain ⟨q1, q2, q3, q4, q5, q6⟩ := id r3
  have cO1 : c ∈ O1 := r5 c hc (fun z => by have := isUp_lt hh.2.1 hcn z; omega)
  have hOl : 0 < O1.length := List.length_pos_of_mem cO1
  obtain ⟨y, T', L', O', c1, c2, c3, c4, c5, c6, c7, c8, c9, c10⟩ := clo_eq q1 (by omega) cO1 r4 (1 + nI k)
  refine ⟨y, T', L', O', _, E1 + 201, 1 + nI k, ?_, ?_, r3.tr ⟨c3, c4, c7, fun k c' hk => upv_n (fun z => hk z.1), by omega, c8, c9, c10⟩, fun z => ((c5 c).mp z).2 rfl, fun w hw hwc hwp => (c5 w).mpr ⟨r5 w hw hwp, hwc⟩⟩
  · rw [jg_cl hh, r1, c1]
  · unfold jt_Mo_close
    rw [r2, c2, Option.bind_some]
theorem hP.len (hh : hP x A ab L O v sg rp T E fo) : O.length ≤ 6 := by
  have := hh.2.1.2.2.2.2.2.2.2.2.1
  have := hh.2.1.1.2.2.2.2.1.2.2
  omega
theorem g_dirty (h : gI x A T E) (hE : E + 100000 ≤ 1000000000) (a : Int32) : gO' A x T E (jf_Bc_dirty x (A 0) a) (jt_Mo_dirty T a) := by
  have h0 := h
  have hC := g_isConf h a
  obtain ⟨ab, L, O, v, sg, rp, hh, hp, hq⟩ := h
  have hh0 := hh
  have h30 := hp.1.2.2.1.2
  obtain ⟨⟨kn, ⟨⟨b1, b2, b3, b4, b5, b6, b7⟩, -, -, -, ⟨s1, -⟩, -⟩, hR⟩, -⟩ := hh
  unfold jf_Bc_dirty jt_Mo_dirty
  rw [y_av b1, Option.bind_some, hC.1, Option.bind_some, hC.2, Option.bind_some]
  dsimp only
  by_cases hb : blw a (nI (tN T 11)) = 0
  · rw [if_pos hb, if_pos hb]; exact gO_rd (r := -1) h0 hE rfl rfl
  · rw [if_neg hb, if_neg hb, y_av b1, Option.bind_some]
    rcases g_ctx hh0 hp hq a with ⟨e1, e2⟩ | ⟨c, hO, hc, hk, e1, e2⟩
    · rw [e1, e2]; exact gO_rd (r := 0) h0 hE rfl rfl
    · have HP : hP x A ab L O v sg rp T E none := ⟨hh0, hp, qF_of hq⟩
      have h6 := HP.len
      obtain ⟨y, T', L', O', v', E', r, r1, r2, ⟨r3, r4, r5, r6, r7, r8, r9, r10⟩, -⟩ := close_eq (n := 3) HP (by omega) hO
      rw [e1, e2, Option.bind_some, Option.bind_some]
      dsimp only
      rw [if_neg (fun z => by cases z), if_pos (nI_pos' (by omega)), y_gRs b1 b6, Option.bind_some, y_av s1, Option.bind_some, r1, Option.bind_some, r2, Option.bind_some]
      refine ⟨y, T', r, rfl, rfl, r8, gI.mono (E := E') ⟨ab, L', O', v', sg, rp, r3.1, r3.2.1, qF_to r3.2.2⟩ (by omega) hE, by omega, ?_⟩
      have : tN T' 23 = tN T 23 := r4.n (by decide)
      omega
set_option maxHeartbeats 1000000 in
theorem shu_L : ∀ (m i : Nat) (x : q_S) (T : tT) (L : Nat → Option (List Nat)) (O : List Nat) (v : Nat → Nat → Int32) (E : Nat) (s : Int32), i < m → i ≤ tN T 16 → hP x A ab L O v sg rp T E none → E + 201 * O.length ≤ 1000000000 → ∃ y T' L' O' v' E' r, jf_Sh_closeAll_L12 m x (A 5) s (nI i - 1) = some (y, r) ∧ jt_Mo_shutdown_L14 m T s (nI i - 1) = some (T', r) ∧ clR x A ab sg rp none T O v E y T' L' O' v' E' := by
  intro m
  induction m with
  | zero => intro i x T L O v E s h; omega
  | succ m ih =>
    intro i x T L O v E s hm hi hh hE
    have h30 := hh.2.1.1.2.2.1.2
    show ∃ y T' L' O' v' E' r, jf_Sh_closeAll_B12 (jf_Sh_closeAll_L12 m) x (A 5) s (nI i - 1) = some (y, r) ∧ jt_Mo_shutdown_B14 (jt_Mo_shutdown_L14 m) T s (nI i - 1) = some (T', r) ∧ _
    unfold jf_Sh_closeAll_B12 jt_Mo_shutdown_B14
    cases i with
    | zero =>
      rw [if_pos (by decide), if_pos (by decide)]
      exact ⟨x, T, L, O, v, E, s, rfl, rfl, hh, tB.rf T, List.Sublist.refl O, fun _ _ _ => rfl, Nat.le_refl _, cFr.rf x, rfl, rfl⟩
    | succ i =>
      have hd : i < tN T 16 := by omega
      have hx := (hh.2.1.2.2.2.2.1.1 i hd).2.2.2.1
      obtain ⟨⟨kn, ⟨-, -, -, -, ⟨s1, s2, s3, s4, s5, s6⟩, -⟩, hR⟩, ⟨hJ, hw, l2, l7, l9, l10, -⟩, -, -, hCC, -⟩ := hh.1
      obtain ⟨i10', -, hl⟩ := hJ.1 _ _ l10
      obtain ⟨⟨o1, o2, o3, o4, o5, o6, o7, o8⟩, -⟩ := hCC.1 i hd
      rw [nI_pred, if_neg (nI_pos (by omega)), if_neg (nI_pos (by omega)), y_gRs s1 s5, Option.bind_some, y_av i10'.1, Option.bind_some, L_get i10' hl (by rw [ls_len]; exact hd), ls_get hd, Option.bind_some, tl_n (by omega) (by decide), Option.bind_some]
      dsimp only
      rw [y_ck o1, Option.bind_some, y_gI o1 o7, Option.bind_some, nI_dec]
      by_cases h0 : T.2 101 i = 0
      · rw [if_pos h0, if_pos h0]
        exact ih i x T L O v E s (by omega) (by omega) hh hE
      · have hO : i ∈ O := (hh.2.1.2.2.2.2.2.2.1 i).mpr ⟨hd, hx.resolve_left h0⟩
        obtain ⟨y1, T1, L1, O1, v1, E1, r1, c1, c2, c3, -⟩ := close_eq (n := 3) hh hE hO
        obtain ⟨q1, q2, q3, q4, q5, q6⟩ := id c3
        have n16 : tN T1 16 = tN T 16 := q2.n (by decide)
        rw [if_neg h0, if_neg h0, y_av s1, Option.bind_some, c1, Option.bind_some, c2, Option.bind_some]
        obtain ⟨y, T', L', O', v', E', r, z1, z2, z3⟩ := ih i y1 T1 L1 O1 v1 E1 (s + r1) (by omega) (by omega) q1 (by omega)
        exact ⟨y, T', L', O', v', E', r, z1, z2, c3.tr z3⟩
theorem hI_down (hh : hI x A ab L O v sg rp T) (u : uF x y 0 5 (A 0) (.int 1)) : hI y A ab L O v sg rp (tp T 22 1) := by
  obtain ⟨⟨kn, hS, hR⟩, ⟨hJ, hw, l2, l7, l9, l10, l11, ln, li⟩, hDD, hKK, hCC, hBB⟩ := hh
  have U : ∀ c a, c ≠ 0 → un x y c a := fun c a hc => un_uF u (fun z => hc z.1)
  have R := hI_rest hDD hKK hCC hBB (y := y) (fun c a h6 _ => U c a (by omega)) (fun t a _ => by rw [u.2.2.2.1])
  refine ⟨⟨kn, ?_, hR⟩, ⟨jL_uF hJ u (by decide), wf_uF hw u, l2, l7, l9, l10, l11, ln, li⟩, R.1, R.2.1, R.2.2.1, R.2.2.2⟩
  obtain ⟨⟨a0, a1, a2, a3, a4, a5, a6⟩, ⟨b1, r1⟩, ⟨b3, r3⟩, ⟨b4, r4⟩, ⟨b5, r5⟩, r6, r7⟩ := hS
  have w1 := U 1 (A 1) (by decide)
  have w3 := U 3 (A 3) (by decide)
  have w4 := U 4 (A 4) (by decide)
  have w5 := U 5 (A 5) (by decide)
  have fd : ∀ j, j ≠ 5 → q_fd y 0 j (A 0) = q_fd x 0 j (A 0) := fun j hj => by rw [u.2.2.2.2.2.2, if_neg (fun z => hj z.2.1)]
  have f5 : q_fd y 0 5 (A 0) = .int 1 := by rw [u.2.2.2.2.2.2, if_pos ⟨rfl, rfl, rfl⟩]
  show cS y A 1 (T.1 0) (T.1 38) kn (T.2 35)
  unfold cS
  rw [fd 0 (by decide), fd 1 (by decide), fd 2 (by decide), fd 3 (by decide), fd 4 (by decide), f5, w1.2, w1.2, w3.2, w3.2, w4.2, w4.2, w4.2, w5.2, w5.2, w5.2, w5.2, w5.2, u.2.2.2.1]
  exact ⟨⟨by rw [u.2.2.1]; exact a0, a1, a2, a3, a4, a5, rfl⟩, ⟨w1.1 b1, r1⟩, ⟨w3.1 b3, r3⟩, ⟨w4.1 b4, r4⟩, ⟨w5.1 b5, r5⟩, r6, r7⟩
theorem g_shutdown (h : gI x A T E) (hE : E + 100000 ≤ 1000000000) : gO' A x T E (jf_Bc_shutdown x (A 0)) (jt_Mo_shutdown T) := by
  obtain ⟨ab, L, O, v, sg, rp, hh, hp, hq⟩ := h
  have hh0 := hh
  have h30 := hp.1.2.2.1.2
  obtain ⟨⟨kn, ⟨⟨b1, b2, b3, b4, b5, b6, b7⟩, -, -, -, -⟩, hR⟩, -⟩ := hh
  unfold jf_Bc_shutdown jt_Mo_shutdown
  rw [y_pZ b1 (Or.inr rfl), Option.bind_some, show tpz T 22 1 = some (tp T 22 1) from if_pos (Or.inr rfl), Option.bind_some]
  have u := uF_of x 0 5 (A 0) (.int 1)
  generalize q_putF x 0 5 (A 0) (.int 1) = x1 at u ⊢
  have H1 := hI_down hh0 u
  have P1 : pI (tp T 22 1) E O v sg rp := by
    obtain ⟨⟨h1, h2, h3, h4, h5, h6, h7, h8, h9⟩, hr⟩ := hp
    exact ⟨⟨h1, h2, h3, h4, h5, h6, h7, Or.inr rfl, h9⟩, hr⟩
  have Q1 : qI (tp T 22 1) v := hq
  have HP : hP x1 A ab L O v sg rp (tp T 22 1) E none := ⟨H1, P1, qF_of Q1⟩
  have h6 := HP.len
  have k23 : tN (tp T 22 1) 23 = tN T 23 := rfl
  have e16 : tf (tp T 22 1) 16 = nI (tN (tp T 22 1) 16) := P1.1.2.2.1.1
  have h30' : tN (tp T 22 1) 16 ≤ 30 := h30
  generalize tp T 22 1 = T1 at H1 P1 Q1 HP k23 e16 h30' ⊢
  obtain ⟨⟨kn', ⟨⟨b1', -, -, -, -, b6', -⟩, -, -, -, ⟨s1, s2, s3, s4, s5, s6⟩, -⟩, hR'⟩, ⟨hJ, hw, l2, l7, l9, l10, -⟩, -⟩ := H1
  have i10' := (hJ.1 _ _ l10).1
  have lS := L_size i10'
  rw [ls_len] at lS
  obtain ⟨y, T', L', O', v', E', r, z1, z2, z3, z4, z5, z6, z7, z8, z9, z10⟩ := shu_L (A := A) (ab := ab) (sg := sg) (rp := rp) lpK (tN T1 16) x1 T1 L O v E 0 (by unfold lpK; omega) (Nat.le_refl _) HP (by omega)
  rw [y_gRs b1' b6', Option.bind_some, y_av s1, Option.bind_some]
  unfold jf_Sh_closeAll
  rw [y_gRs s1 s5, Option.bind_some, y_av i10'.1, Option.bind_some, lS, Option.bind_some]
  dsimp only
  rw [z1, Option.bind_some, e16, z2]
  have : tN T' 23 = tN T1 23 := z4.n (by decide)
  exact ⟨y, T', r, rfl, rfl, (cFr_uF u (by decide)).tr z8, gI.mono (E := E') ⟨ab, L', O', v', sg, rp, z3.1, z3.2.1, qF_to z3.2.2⟩ (by omega) hE, by rw [z9, u.1]; omega, by rw [z10, u.2.1, this, k23]; omega⟩
end CQ
