/-! A context is closed with those below it. -/
section CP
variable {x y : q_S} {A : Nat → Nat} {T : tT} {E : Nat} {ab : Nat → Nat → Nat} {L L' : Nat → Option (List Nat)} {O O' : List Nat} {v sg : Nat → Nat → Int32} {rp : Nat → Nat} {fo : Option Nat}
theorem par_eq (hh : hP x A ab L O v sg rp T E fo) {c d : Nat} (hc : c < tN T 16) (hd : d < tN T 16) : (tO T 23 d).map (ab 9) = some (ab 9 c) ↔ tO T 23 d = some c := by
  have hx := (hh.2.1.2.2.2.2.1.1 d hd).2.1.2
  cases h : tO T 23 d with
  | none => exact ⟨fun z => (by cases z), fun z => (by cases z)⟩
  | some u =>
    have lu := (hx u h).1
    constructor
    · intro z
      rw [(hh.1.2.2.2.2.1.2 u c (by omega) hc).1 (Option.some.inj z)]
    · intro z
      cases z
      rfl
theorem scn {c : Nat} (hh : hP x A ab L O v sg rp T E fo) (hc : c < tN T 16) (rc : q_S → Nat → Option Nat → Option (q_S × Int32)) : ∀ (k j m : Nat) (s : Int32), (∀ d, j ≤ d → d < j + k → ¬ (d ∈ O ∧ tO T 23 d = some c)) → c < j → j + k ≤ tN T 16 → jf_Sh_close_L12 rc (m + k) x (A 5) (some (ab 9 c)) s (nI (j + k) - 1) = jf_Sh_close_L12 rc m x (A 5) (some (ab 9 c)) s (nI j - 1) := by
  have hh0 := hh
  obtain ⟨hi, hp, hq⟩ := hh
  obtain ⟨⟨kn, ⟨-, -, -, -, ⟨s1, s2, s3, s4, s5, s6⟩, -⟩, hR⟩, ⟨hJ, hw, l2, l7, l9, l10, -⟩, -, -, hCC, -⟩ := hi
  obtain ⟨i10', -, hl⟩ := hJ.1 _ _ l10
  have h30 := hp.1.2.2.1.2
  obtain ⟨⟨g1, g2, -⟩, -⟩ := hCC.1 c hc
  intro k
  induction k with
  | zero => intro j m s _ _ _; rfl
  | succ k ih =>
    intro j m s hno hcj hjk
    have hd : j + k < tN T 16 := by omega
    obtain ⟨⟨o1, o2, o3, o4, o5, o6, o7, o8⟩, -⟩ := hCC.1 (j + k) hd
    have nx := ih j m s (fun d h1 h2 => hno d h1 (by omega)) hcj (by omega)
    have hx := (hp.2.2.2.2.1.1 (j + k) hd).2.2.2.1
    show jf_Sh_close_B12 rc (jf_Sh_close_L12 rc (m + k)) x (A 5) (some (ab 9 c)) s (nI (j + k + 1) - 1) = _
    unfold jf_Sh_close_B12
    rw [nI_pred, y_gI g1 g2, Option.bind_some, if_neg (nI_ge (a := c) (by omega) (by omega)), y_gRs s1 s5, Option.bind_some, y_av i10'.1, Option.bind_some, L_get i10' hl (by rw [ls_len]; exact hd), ls_get hd, Option.bind_some]
    dsimp only
    rw [y_ck o1, Option.bind_some, y_gI o1 o7, Option.bind_some, nI_dec]
    by_cases h0 : T.2 101 (j + k) = 0
    · rw [if_pos h0]; exact nx
    · rw [if_neg h0, y_gR o1 o4, Option.bind_some, if_neg (fun z => hno (j + k) (by omega) (by omega) ⟨(hp.2.2.2.2.2.2.1 _).mpr ⟨hd, hx.resolve_left h0⟩, (par_eq hh0 hc hd).mp z⟩)]
      exact nx
theorem scn' {c i j m : Nat} {s : Int32} (hh : hP x A ab L O v sg rp T E fo) (hc : c < tN T 16) (rc : q_S → Nat → Option Nat → Option (q_S × Int32)) (hno : ∀ d, j ≤ d → d < i → ¬ (d ∈ O ∧ tO T 23 d = some c)) (hcj : c < j) (hji : j ≤ i) (hi : i ≤ tN T 16) (hm : i < m) : ∃ m', i - j + m' + 1 = m ∧ jf_Sh_close_L12 rc m x (A 5) (some (ab 9 c)) s (nI i - 1) = jf_Sh_close_B12 rc (jf_Sh_close_L12 rc m') x (A 5) (some (ab 9 c)) s (nI j - 1) := by
  refine ⟨m - (i - j) - 1, by omega, ?_⟩
  have := scn hh hc rc (i - j) j (m - (i - j) - 1 + 1) s (fun d h1 h2 => hno d h1 (by omega)) hcj (by omega)
  rw [show m - (i - j) - 1 + 1 + (i - j) = m by omega, show j + (i - j) = i by omega] at this
  exact this
theorem end_eq {c : Nat} {s : Int32} {rc : q_S → Nat → Option Nat → Option (q_S × Int32)} {rd : q_S → Nat → Option Nat → Int32 → Int32 → Option (q_S × Int32)} (hh : hP x A ab L O v sg rp T E fo) (hc : c < tN T 16) : jf_Sh_close_B12 rc rd x (A 5) (some (ab 9 c)) s (nI (c + 1) - 1) = kCl x (A 5) (some (ab 9 c)) s := by
  have h30 := hh.2.1.1.2.2.1.2
  obtain ⟨⟨g1, g2, -⟩, -⟩ := hh.1.2.2.2.2.1.1 c hc
  unfold jf_Sh_close_B12
  rw [nI_pred, y_gI g1 g2, Option.bind_some, if_pos (nI_le (Nat.le_refl c) (by omega))]
  rfl
def isCh (T : tT) (O : List Nat) (c : Nat) (o : Option Nat) : Prop := (∀ d, o = some d → d ∈ O ∧ tO T 23 d = some c ∧ ∀ e, d < e → ¬ (e ∈ O ∧ tO T 23 e = some c)) ∧ (o = none → ∀ e, ¬ (e ∈ O ∧ tO T 23 e = some c))
theorem chl_eq (hp : pI T E O v sg rp) {c : Nat} (hc : c < tN T 16) : ∃ o, isCh T O c o ∧ jt_Mo_child T (nI c) = some (T, oI o) := by
  have h30 := hp.1.2.2.1.2
  have e16 : tf T 16 = nI (tN T 16) := hp.1.2.2.1.1
  have hmm := hp.2.2.2.2.2.2.1
  have key : ∀ (m i : Nat), i < m → i ≤ tN T 16 → (∀ e, i ≤ e → ¬ (e ∈ O ∧ tO T 23 e = some c)) → ∃ o, isCh T O c o ∧ jt_Mo_child_L7 m T (nI c) (nI i - 1) = some (T, oI o) := by
    intro m
    induction m with
    | zero => intro i h; omega
    | succ m ih =>
      intro i hm hi hno
      show ∃ o, isCh T O c o ∧ jt_Mo_child_B7 (jt_Mo_child_L7 m) T (nI c) (nI i - 1) = _
      unfold jt_Mo_child_B7
      cases i with
      | zero =>
        rw [if_pos (by decide)]
        exact ⟨none, ⟨(fun d z => by cases z), fun _ e => hno e (Nat.zero_le e)⟩, rfl⟩
      | succ i =>
        have hd : i < tN T 16 := by omega
        obtain ⟨-, ⟨c3, c4⟩, -, q4, -⟩ := hp.2.2.2.2.1.1 i hd
        have nxt : ¬ (i ∈ O ∧ tO T 23 i = some c) → ∃ o, isCh T O c o ∧ jt_Mo_child_L7 m T (nI c) (nI i - 1) = some (T, oI o) := fun h =>
          ih i (by omega) (by omega) (fun e he => by
            by_cases e' : e = i
            · rw [e']; exact h
            · exact hno e (by omega))
        rw [nI_pred, if_neg (nI_pos (by omega)), tl_n (by omega) (by decide), Option.bind_some, nI_dec]
        by_cases h0 : T.2 101 i = 0
        · rw [if_pos h0]
          exact nxt (fun z => by have := ((hmm i).mp z.1).2; rw [h0] at this; exact absurd this (by decide))
        · have hO : i ∈ O := (hmm i).mpr ⟨hd, q4.resolve_left h0⟩
          rw [if_neg h0, tl_n (by omega) (by decide), Option.bind_some, c3]
          by_cases hk : oI (tO T 23 i) = nI c
          · have e : tO T 23 i = some c := by
              cases ho : tO T 23 i with
              | none => rw [ho] at hk; exact absurd (show nI c < 0 by rw [← hk]; decide) (nI_pos (by omega))
              | some u =>
                rw [ho] at hk
                have := (c4 u ho).1
                rw [(nI_eq (by omega) (by omega)).mp hk]
            rw [if_pos hk]
            exact ⟨some i, ⟨(fun d z => by cases z; exact ⟨hO, e, fun e' he' => hno e' he'⟩), (fun z => by cases z)⟩, rfl⟩
          · rw [if_neg hk]
            exact nxt (fun z => hk (by rw [z.2]; rfl))
  unfold jt_Mo_child
  rw [e16]
  exact key lpK (tN T 16) (by unfold lpK; omega) (Nat.le_refl _) (fun e he z => by have := ((hmm e).mp z.1).1; omega)
theorem jg_cl {n : Nat} (hh : hP x A ab L O v sg rp T E fo) (c : Nat) : jg_Sh_close (n + 1) x (A 5) (some (ab 9 c)) = jf_Sh_close_L12 (jg_Sh_close n) lpK x (A 5) (some (ab 9 c)) 1 (nI (tN T 16) - 1) := by
  obtain ⟨hi, hp, hq⟩ := hh
  obtain ⟨⟨kn, ⟨-, -, -, -, ⟨s1, s2, s3, s4, s5, s6⟩, -⟩, hR⟩, ⟨hJ, hw, l2, l7, l9, l10, -⟩, -⟩ := hi
  have i10' := (hJ.1 _ _ l10).1
  have lS := L_size i10'
  rw [ls_len] at lS
  show jf_Sh_close (jg_Sh_close n) x (A 5) (some (ab 9 c)) = _
  unfold jf_Sh_close
  rw [y_gRs s1 s5, Option.bind_some, y_av i10'.1, Option.bind_some, lS, Option.bind_some]
/-- what closing leaves, with those that it closed -/
def clR (x : q_S) (A : Nat → Nat) (ab : Nat → Nat → Nat) (sg : Nat → Nat → Int32) (rp : Nat → Nat) (fo : Option Nat) (T : tT) (O : List Nat) (v : Nat → Nat → Int32) (E : Nat) (y : q_S) (T' : tT) (L' : Nat → Option (List Nat)) (O' : List Nat) (v' : Nat → Nat → Int32) (E' : Nat) : Prop := hP y A ab L' O' v' sg rp T' E' fo ∧ tB T T' ∧ O'.Sublist O ∧ (∀ k c, k ≠ 1 → v' k c = v k c) ∧ E' + 201 * O'.length ≤ E + 201 * O.length ∧ cFr x y ∧ q_sz y = q_sz x ∧ q_sl y = q_sl x
theorem clR.tr {x y z : q_S} {T1 T2 : tT} {O1 O2 : List Nat} {L1 L2 : Nat → Option (List Nat)} {v1 v2 : Nat → Nat → Int32} {E1 E2 : Nat} (h : clR x A ab sg rp fo T O v E y T1 L1 O1 v1 E1) (g : clR y A ab sg rp fo T1 O1 v1 E1 z T2 L2 O2 v2 E2) : clR x A ab sg rp fo T O v E z T2 L2 O2 v2 E2 := by
  obtain ⟨h1, h2, h3, h4, h5, h6, h7, h8⟩ := h
  obtain ⟨g1, g2, g3, g4, g5, g6, g7, g8⟩ := g
  exact ⟨g1, h2.tr g2, g3.trans h3, fun k c hk => (g4 k c hk).trans (h4 k c hk), by omega, h6.tr g6, by omega, by omega⟩
theorem leaf_eq {c n : Nat} (hh : hP x A ab L O v sg rp T E fo) (hE : E + 201 ≤ 1000000000) (hc : c ∈ O) (hno : ∀ d, d ∈ O → tO T 23 d ≠ some c) : ∃ y T' L' O' v', jg_Sh_close (n + 1) x (A 5) (some (ab 9 c)) = some (y, 1) ∧ jt_Mo_closeOne T (nI c) = some (T', ()) ∧ clR x A ab sg rp fo T O v E y T' L' O' v' (E + 201) ∧ (∀ w, w ∈ O' ↔ w ∈ O ∧ w ≠ c) := by
  have hcn := (hh.lt hc).1
  have h30 := hh.2.1.1.2.2.1.2
  obtain ⟨m', -, e⟩ := scn' (i := tN T 16) (j := c + 1) (m := lpK) (s := 1) hh hcn (jg_Sh_close n) (fun d _ _ z => hno d z.1 z.2) (by omega) (by omega) (Nat.le_refl _) (by unfold lpK; omega)
  obtain ⟨y, T', L', O', c1, c2, c3, c4, c5, c6, c7, c8, c9, c10⟩ := clo_eq hh hE hc hno 1
  exact ⟨y, T', L', O', _, by rw [jg_cl hh, e, end_eq hh hcn, c1], c2, ⟨c3, c4, c7, fun k c' hk => upv_n (fun z => hk z.1), by omega, c8, c9, c10⟩, c5⟩
theorem L19_s {kk : tT → Int32 → Int32 → Int32 → Int32 → Option (tT × Int32)} {m : Nat} {l1 l2 l3 l4 : Int32} : jt_Mo_close_L19 kk (m + 1) T l1 l2 l3 l4 = if l4 < 0 then kk T l1 l2 l3 l4 else (jt_Mo_closeOne T l4).bind fun p10 => (jt_Mo_child p10.1 l3).bind fun p13 => jt_Mo_close_L19 kk m p13.1 l1 (l2 + 1) l3 p13.2 := rfl
theorem s_add (s : Int32) (k : Nat) : s + 1 + nI k = s + nI (k + 1) := by
  rw [Int32.add_assoc, Nat.add_comm k 1, ← nI_add]; rfl
set_option maxHeartbeats 2000000 in
theorem inn_L {c n : Nat} : ∀ (f i : Nat), i < f → ∀ (x : q_S) (T : tT) (L : Nat → Option (List Nat)) (O : List Nat) (v : Nat → Nat → Int32) (E : Nat), hP x A ab L O v sg rp T E fo → c ∈ O → (∀ d, d ∈ O → tO T 23 d = some c → ∀ e, e ∈ O → tO T 23 e ≠ some d) → (∀ d, d ∈ O → tO T 23 d = some c → d < i) → c < i → i ≤ tN T 16 → E + 201 * O.length ≤ 1000000000 → ∀ (m m2 : Nat) (s : Int32), i < m → i < m2 → ∃ y T' L' O' v' E' k, jf_Sh_close_L12 (jg_Sh_close (n + 1)) m x (A 5) (some (ab 9 c)) s (nI i - 1) = kCl y (A 5) (some (ab 9 c)) (s + nI k) ∧ (∀ kk l1 l2, ((jt_Mo_child T (nI c)).bind fun p => jt_Mo_close_L19 kk m2 p.1 l1 l2 (nI c) p.2) = kk T' l1 (l2 + nI k) (nI c) (-1)) ∧ clR x A ab sg rp fo T O v E y T' L' O' v' E' ∧ (∀ d, d ∈ O' → tO T' 23 d ≠ some c) ∧ (∀ w, w ∈ O → tO T 23 w ≠ some c → w ∈ O') := by
  intro f
  induction f with
  | zero => intro i h; omega
  | succ f ih =>
    intro i hf x T L O v E hh hc hlf hmx hci hin hE m m2 s hm hm2
    have hcn := (hh.lt hc).1
    have h30 := hh.2.1.1.2.2.1.2
    obtain ⟨m2, rfl⟩ : ∃ m', m2 = m' + 1 := ⟨m2 - 1, by omega⟩
    obtain ⟨o, ho, e1⟩ := chl_eq hh.2.1 hcn
    cases o with
    | none =>
      have hn := ho.2 rfl
      obtain ⟨m', -, e⟩ := scn' (i := i) (j := c + 1) (m := m) (s := s) hh hcn (jg_Sh_close (n + 1)) (fun d _ _ => hn d) (by omega) (by omega) hin hm
      refine ⟨x, T, L, O, v, E, 0, by rw [e, end_eq hh hcn]; rw [show nI 0 = (0 : Int32) from rfl, Int32.add_zero], fun kk l1 l2 => ?_, ⟨hh, tB.rf T, List.Sublist.refl O, fun _ _ _ => rfl, Nat.le_refl _, cFr.rf x, rfl, rfl⟩, fun d hd z => hn d ⟨hd, z⟩, fun w hw _ => hw⟩
      rw [e1, Option.bind_some, L19_s, if_pos (show oI none < 0 by decide), show nI 0 = (0 : Int32) from rfl, Int32.add_zero]
      rfl
    | some d =>
      obtain ⟨hdO, hdp, hdm⟩ := ho.1 d rfl
      have hdi := hmx d hdO hdp
      have hdn := (hh.lt hdO).1
      have hcd := ((hh.2.1.2.2.2.2.1.1 d hdn).2.1.2 c hdp).1
      have hOl : 0 < O.length := List.length_pos_of_mem hdO
      obtain ⟨m', hm', e⟩ := scn' (i := i) (j := d + 1) (m := m) (s := s) hh hcn (jg_Sh_close (n + 1)) (fun e h1 _ => hdm e (by omega)) (by omega) (by omega) hin hm
      obtain ⟨y1, T1, L1, O1, v1, f1, f2, f3, f4⟩ := leaf_eq (n := n) hh (by omega) hdO (hlf d hdO hdp)
      obtain ⟨f31, f32, f33, f34, f35, f36⟩ := id f3
      have cO1 : c ∈ O1 := (f4 c).mpr ⟨hc, by omega⟩
      have n16 : tN T1 16 = tN T 16 := f32.n (by decide)
      obtain ⟨y, T', L', O', v', E', k, r1, r2, r3, r4, r5⟩ := ih d (by omega) y1 T1 L1 O1 v1 (E + 201) f31 cO1 (fun a ha hap e he => by rw [f32.o] at hap ⊢; exact hlf a ((f4 a).mp ha).1 hap e ((f4 e).mp he).1) (fun a ha hap => by
        rw [f32.o] at hap
        obtain ⟨a1, a2⟩ := (f4 a).mp ha
        have := hdm a
        by_cases h : d < a
        · exact absurd ⟨a1, hap⟩ (this h)
        · omega) hcd (by omega) (by omega) m' m2 (s + 1) (by omega) (by omega)
      refine ⟨y, T', L', O', v', E', k + 1, ?_, fun kk l1 l2 => ?_, f3.tr r3, r4, fun w hw hwp => r5 w ((f4 w).mpr ⟨hw, fun z => hwp (by rw [z]; exact hdp)⟩) (by rw [f32.o]; exact hwp)⟩
      · rw [e]
        obtain ⟨⟨kn, ⟨-, -, -, -, ⟨s1, s2, s3, s4, s5, s6⟩, -⟩, hR⟩, ⟨hJ, hw, l2, l7, l9, l10, -⟩, -, -, hCC, -⟩ := hh.1
        obtain ⟨i10', -, hl⟩ := hJ.1 _ _ l10
        obtain ⟨⟨g1, g2, -⟩, -⟩ := hCC.1 c hcn
        obtain ⟨⟨o1, o2, o3, o4, o5, o6, o7, o8⟩, -⟩ := hCC.1 d hdn
        unfold jf_Sh_close_B12
        rw [nI_pred, y_gI g1 g2, Option.bind_some, if_neg (nI_ge (a := c) (by omega) (by omega)), y_gRs s1 s5, Option.bind_some, y_av i10'.1, Option.bind_some, L_get i10' hl (by rw [ls_len]; exact hdn), ls_get hdn, Option.bind_some]
        dsimp only
        rw [y_ck o1, Option.bind_some, y_gI o1 o7, Option.bind_some, nI_dec, if_neg (by rw [(hh.lt hdO).2.1]; decide), y_gR o1 o4, Option.bind_some, if_pos ((par_eq hh hcn hdn).mpr hdp), y_av s1, Option.bind_some, f1, Option.bind_some]
        dsimp only
        rw [r1, s_add]
      · rw [e1, Option.bind_some, L19_s, if_neg (show ¬ oI (some d) < 0 from nI_pos (by omega)), show oI (some d) = nI d from rfl, f2, Option.bind_some, r2, s_add]
end CP
