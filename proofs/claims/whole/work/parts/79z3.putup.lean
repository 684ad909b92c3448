/-! A context is put up. -/
def kTl (x : q_S) (a0 : Nat) (a1 : Option Nat) : Option (q_S × Unit) :=
    (q_pZ x a1 9 5 1).bind fun x10 =>
    (q_av x10 (some a0) 5).bind fun b14 =>
    (jf_Sh_use x10 b14 a1).bind fun p12 =>
    (q_gR p12.1 (some a0) 5 2).bind fun v16 =>
    (q_gI p12.1 a1 9 0).bind fun v18 =>
    (q_av p12.1 v16 3).bind fun b22 =>
    (jf_Jo_write p12.1 b22 2 v18).bind fun p20 =>
    some (p20.1, ())
def kTt (T : tT) (l3 : Int32) : Option (tT × Int32) :=
      (tw T 101 30 l3 ((1 : Int32) &&& 1)).bind fun T13 =>
      (jt_Mo_use T13 l3).bind fun p16 =>
      (jt_Mo_note p16.1 2 l3).bind fun p19 =>
      some (p19.1, l3)
def kPt (T : tT) (l3 : Int32) : Option (tT × Int32) :=
    (jt_Mo_keptNow T).bind fun p10 =>
    if p10.2 = (tf p10.1 0) then
      (jt_Mo_displace p10.1 l3).bind fun p22 => kTt p22.1 l3
    else
      kTt p10.1 l3
/-- as before but for the clock, the journal, what is kept and what is gone -/
def tY (T T' : tT) : Prop := (∀ k, [21, 38].contains k = false → T'.1 k = T.1 k) ∧ ∀ t, [24, 35, 101, 103].contains t = false → T'.2 t = T.2 t
theorem tY.rf (T : tT) : tY T T := ⟨fun _ _ => rfl, fun _ _ => rfl⟩
theorem tY.tr {T T' T'' : tT} (h : tY T T') (g : tY T' T'') : tY T T'' := ⟨fun k hk => (g.1 k hk).trans (h.1 k hk), fun t ht => (g.2 t ht).trans (h.2 t ht)⟩
theorem tB.y {T T' : tT} (h : tB T T') : tY T T' := ⟨fun k hk => h.1 k (fun z => by rw [z] at hk; exact absurd hk (by decide)), fun t ht => h.2 t (fun z => by rw [z] at ht; exact absurd ht (by decide)) (fun z => by rw [z] at ht; exact absurd ht (by decide)) (fun z => by rw [z] at ht; exact absurd ht (by decide))⟩
theorem tU.y {T T' : tT} (h : tU T T') : tY T T' := ⟨fun k hk => h.1 k (fun z => by rw [z] at hk; exact absurd hk (by decide)), fun t ht => h.2 t (fun z => by rw [z] at ht; exact absurd ht (by decide))⟩
theorem tY_note {w : Int32} (T : tT) : tY T (tNote T w) := (tA_note T).b.y
theorem tY_101 {g : Nat → Int32} (T : tT) : tY T (tset T 101 g) := ⟨fun _ _ => rfl, fun t ht => if_neg (fun z => by rw [z] at ht; exact absurd ht (by decide))⟩
theorem tY.n {T T' : tT} (h : tY T T') {k : Nat} (hk : [21, 38].contains k = false) : tN T' k = tN T k := by unfold tN; rw [h.1 k hk]
theorem tY.v {T T' : tT} (h : tY T T') {t : Nat} (ht : [24, 35, 101, 103].contains t = false) (i : Nat) : tV T' t i = tV T t i := by unfold tV; rw [h.2 t ht]
theorem tY.o {T T' : tT} (h : tY T T') {t : Nat} (ht : [24, 35, 101, 103].contains t = false) (i : Nat) : tO T' t i = tO T t i := by unfold tO tV; rw [h.2 t ht]
section PT
variable {x y : q_S} {A : Nat → Nat} {T : tT} {E : Nat} {ab : Nat → Nat → Nat} {L : Nat → Option (List Nat)} {O : List Nat} {v sg : Nat → Nat → Int32} {rp : Nat → Nat}
theorem cl_c {T T' : tT} (h : ∀ d, tO T' 23 d = tO T 23 d) : ∀ (n : Nat) (o : Option Nat), cl T' n o = cl T n o
  | 0, _ => rfl
  | _ + 1, none => rfl
  | n + 1, some c => by
    show c :: cl T' n (tO T' 23 c) = c :: cl T n (tO T 23 c)
    rw [h c, cl_c h n]
theorem cl_up {f : Nat} : ∀ w, w ∈ cl T 3 (some f) → w = f ∨ isUp T w f := by
  intro w hw
  rcases List.mem_cons.mp hw with rfl | hw
  · exact Or.inl rfl
  · have hw : w ∈ cl T 2 (tO T 23 f) := hw
    cases hu : tO T 23 f with
    | none => rw [hu] at hw; cases hw
    | some u =>
      rw [hu] at hw
      rcases List.mem_cons.mp hw with rfl | hw
      · exact Or.inr (Or.inl hu)
      · have hw : w ∈ cl T 1 (tO T 23 u) := hw
        cases hu2 : tO T 23 u with
        | none => rw [hu2] at hw; cases hw
        | some u2 =>
          rw [hu2] at hw
          rcases List.mem_cons.mp hw with rfl | hw
          · exact Or.inr (Or.inr ⟨u, hu, hu2⟩)
          · cases hw
set_option maxHeartbeats 4000000 in
theorem tail_eq {f : Nat} (hh : hP x A ab L O v sg rp T E (some f)) (hE : E + 4 ≤ 1000000000) (hf : f < tN T 16) (hl : O.length < tN T 0) (hpar : ∀ u, tO T 23 f = some u → u ∈ O) (huq : ∀ w, w ∈ O → tV T 22 w ≠ tV T 22 f) : ∃ y T' L' O', kTl x (A 5) (some (ab 9 f)) = some (y, ()) ∧ kTt T (nI f) = some (T', nI f) ∧ hP y A ab L' O' v sg rp T' (E + 4) none ∧ (∀ w, w ∈ O' ↔ w ∈ O ∨ w = f) ∧ tY T T' ∧ cFr x y ∧ q_sz y ≤ q_sz x + 3 ∧ q_sl y ≤ q_sl x + 120 := by
  have h6 := hh.len
  obtain ⟨hi, hp, hq⟩ := hh
  have h30 := hp.1.2.2.1.2
  obtain ⟨hr1, hr2, hr3, hr4⟩ := hp.2.2.2.2.2.2
  have hx := hp.2.2.2.2.1
  obtain ⟨v1f, k0f⟩ : v 1 f = 0 ∧ T.2 101 f = 0 := by
    rcases (hq f hf).2 with ⟨-, z⟩ | ⟨z, -⟩
    · exact z
    · exact absurd rfl z
  have hfO : f ∉ O := fun z => by have := ((hr1 f).mp z).2; rw [k0f] at this; exact absurd this (by decide)
  have upO : ∀ w, isUp T w f → w ∈ O := fun w hw => by
    rcases hw with hw | ⟨u, h1, h2⟩
    · exact hpar w hw
    · have hu := (hr1 u).mp (hpar u h1)
      have := (hx.1 u hu.1).2.1.2 w h2
      exact (hr1 w).mpr ⟨by omega, this.2 hu.2⟩
  obtain ⟨⟨g1, -⟩, -⟩ := hi.2.2.2.2.1.1 f hf
  unfold kTl kTt
  rw [y_pZ g1 (Or.inr rfl), Option.bind_some, show ((1 : Int32) &&& 1) = 1 by decide, tw_n (by omega) (by decide), Option.bind_some]
  have u := uF_of x 9 5 (ab 9 f) (.int 1)
  generalize q_putF x 9 5 (ab 9 f) (.int 1) = x1 at u ⊢
  have H1 := hI_kept hi hf u
  have J1 : pJ (tset T 101 (upd (T.2 101) f 1)) E v sg rp := by
    obtain ⟨hC, hD, hk, hB, ⟨hx1, hx2⟩, he, -⟩ := hp
    refine ⟨hC, hD, hk, hB, ⟨fun d hd => ?_, fun d hd => ⟨?_, (hx2 d hd).2⟩⟩, he⟩
    · have hd : d < tN T 16 := hd
      obtain ⟨q1, ⟨q2, q3⟩, q4, q5, q6⟩ := hx1 d hd
      refine ⟨q1, ⟨q2, fun u hu => ⟨(q3 u hu).1, fun h1 => ?_⟩⟩, q4, ?_, q6⟩
      · have h1 : upd (T.2 101) f 1 d = 1 := h1
        have hu : tO T 23 d = some u := hu
        show upd (T.2 101) f 1 u = 1
        by_cases e2 : u = f
        · rw [e2, upd_s]
        · rw [upd_n e2]
          by_cases e : d = f
          · rw [e] at hu
            exact ((hr1 u).mp (hpar u hu)).2
          · rw [upd_n e] at h1
            exact (q3 u hu).2 h1
      · show upd (T.2 101) f 1 d = 0 ∨ upd (T.2 101) f 1 d = 1
        by_cases e : d = f
        · rw [e, upd_s]; exact Or.inr rfl
        · rw [upd_n e]; exact q5
    · have hd : tN T 16 ≤ d := hd
      show upd (T.2 101) f 1 d = 0
      rw [upd_n (by omega)]; exact (hx2 d hd).1
  have s1' : q_al x1 5 (A 5) = true := by
    obtain ⟨kn', ⟨-, -, -, -, ⟨t1, -⟩, -⟩, -⟩ := H1.1
    exact t1
  have ch : chl (tset T 101 (upd (T.2 101) f 1)) 3 (some f) := chl_3 hp hf
  have clE : cl (tset T 101 (upd (T.2 101) f 1)) 3 (some f) = cl T 3 (some f) := cl_c (T := T) (T' := tset T 101 (upd (T.2 101) f 1)) (fun _ => rfl) 3 (some f)
  have hO1 : ∀ w, w ∈ O → w < tN (tset T 101 (upd (T.2 101) f 1)) 16 := fun w hw => ((hr1 w).mp hw).1
  have hs1 : O.Pairwise (fun a b => tV (tset T 101 (upd (T.2 101) f 1)) 24 b < tV (tset T 101 (upd (T.2 101) f 1)) 24 a) := hr2
  have hf1 : f < tN (tset T 101 (upd (T.2 101) f 1)) 16 := hf
  have Y1 := tY_101 (g := upd (T.2 101) f 1) T
  have r101 : (tset T 101 (upd (T.2 101) f 1)).2 101 = upd (T.2 101) f 1 := rfl
  generalize tset T 101 (upd (T.2 101) f 1) = T1 at H1 J1 ch clE hO1 hs1 hf1 Y1 r101 ⊢
  obtain ⟨y2, T2, L', R, a1, a2, a3, a4, a5, a6, a7, a8, a9, a10⟩ := use_eq H1 J1 (by omega) hf1 ch hO1 hs1 h6
  rw [clE] at a3 a5 a6
  have Y2 := Y1.tr a7.y
  have n16 : tN T2 16 = tN T 16 := Y2.n (by decide)
  have n0 : tN T2 0 = tN T 0 := Y2.n (by decide)
  have t101 : T2.2 101 = upd (T.2 101) f 1 := (a7.2 101 (by decide)).trans r101
  have mem : ∀ w, w ∈ cl T 3 (some f) ++ R ↔ w ∈ O ∨ w = f := fun w => by
    rw [List.mem_append, a6]
    constructor
    · rintro (z | z)
      · rcases cl_up w z with z | z
        · exact Or.inr z
        · exact Or.inl (upO w z)
      · exact Or.inl z.1
    · rintro (z | z)
      · by_cases hc : w ∈ cl T 3 (some f)
        · exact Or.inl hc
        · exact Or.inr ⟨z, hc⟩
      · rw [z]; exact Or.inl (List.mem_cons_self)
  have len : (cl T 3 (some f) ++ R).length = O.length + 1 := by
    have p := (List.perm_ext_iff_of_nodup (srt_nd a5) (List.nodup_cons.mpr ⟨hfO, srt_nd hr2⟩)).mpr (fun w => by rw [mem w, List.mem_cons]; exact Or.comm)
    rw [p.length_eq, List.length_cons]
  have P2 : pI T2 (E + 3) (cl T 3 (some f) ++ R) v sg rp := by
    obtain ⟨b1, b2, b3, b4, b5, b6⟩ := a4
    refine ⟨b1, b2, b3, b4, b5, b6, fun w => ?_, a5, by rw [len, n0]; omega, fun c d hc hd e => ?_⟩
    · rw [mem w, n16, t101]
      by_cases e : w = f
      · rw [e, upd_s]; exact ⟨fun _ => ⟨hf, rfl⟩, fun _ => Or.inr rfl⟩
      · rw [upd_n e, ← hr1 w]; exact ⟨fun z => z.resolve_right e, Or.inl⟩
    · rw [Y2.v (t := 22) (by decide), Y2.v (t := 22) (by decide)] at e
      rcases (mem c).mp hc with hc | hc
      · rcases (mem d).mp hd with hd | hd
        · exact hr4 c d hc hd e
        · rw [hd] at e; exact absurd e (huq c hc)
      · rcases (mem d).mp hd with hd | hd
        · rw [hc] at e; exact absurd e.symm (huq d hd)
        · rw [hc, hd]
  rw [y_av s1', Option.bind_some, a1, Option.bind_some, a2, Option.bind_some]
  dsimp only
  obtain ⟨⟨kn3, ⟨-, -, ⟨j1, -⟩, -, ⟨t1, t2, t3, t4, t5, t6⟩, -⟩, hR3⟩, -, -, -, hC3, -⟩ := id a3
  obtain ⟨⟨c1, c2, -⟩, -⟩ := hC3.1 f (by omega)
  have e38 := P2.1.2.2.2.2.2.2.1
  obtain ⟨y4, f1, f2, f3, f4, f5, -⟩ := write_eq a3 e38.1 (by omega) 2 (nI f)
  rw [y_gRs t1 t4, Option.bind_some, y_gI c1 c2, Option.bind_some, y_av j1, Option.bind_some, f1, Option.bind_some, note_eq e38.1 (by omega), Option.bind_some]
  refine ⟨y4, _, L', _, rfl, rfl, ⟨f2, pI_note P2 (by omega), fun c hc => ?_⟩, mem, Y2.tr (tY_note T2), ((cFr_uF u (by decide)).tr a8).tr f3, by rw [f4]; have := u.1; omega, by rw [f5]; have := u.2.1; omega⟩
  have hc : c < tN T2 16 := hc
  obtain ⟨z1, z2⟩ := hq c (by omega)
  refine ⟨z1, Or.inr ⟨(fun z => by cases z), ?_⟩⟩
  show v 1 c = if T2.2 101 c = 1 then 0 else 1
  rw [t101]
  by_cases e : c = f
  · rw [e, upd_s, if_pos rfl]; exact v1f
  · rw [upd_n e]
    rcases z2 with ⟨z, -⟩ | ⟨-, z⟩
    · cases z; exact absurd rfl e
    · exact z
set_option maxHeartbeats 1000000 in
theorem put_eq {f : Nat} (hh : hP x A ab L O v sg rp T E (some f)) (hE : E + 1300 ≤ 1000000000) (hf : f < tN T 16) (hpar : ∀ u, tO T 23 f = some u → u ∈ O) (huq : ∀ w, w ∈ O → tV T 22 w ≠ tV T 22 f) : ∃ y T' L' O' v' E', jf_Sh_putUp x (A 5) (some (ab 9 f)) = some (y, ()) ∧ kPt T (nI f) = some (T', nI f) ∧ hP y A ab L' O' v' sg rp T' E' none ∧ E' ≤ E + 1300 ∧ f ∈ O' ∧ (∀ w, w ∈ O' → w ∈ O ∨ w = f) ∧ tY T T' ∧ cFr x y ∧ q_sz y ≤ q_sz x + 3 ∧ q_sl y ≤ q_sl x + 120 := by
  have h6 := hh.len
  obtain ⟨hi, hp, hq⟩ := id hh
  have hr3 := hp.2.2.2.2.2.2.2.2.1
  have e0 := hp.1.2.2.2.2.1
  obtain ⟨⟨kn, ⟨-, -, -, -, ⟨s1, s2, s3, s4, s5, s6⟩, -⟩, hR⟩, ⟨hJ, hw, l2, l7, l9, l10, l11, -⟩, -⟩ := id hi
  have i11 := (hJ.1 _ _ l11).1
  have lS := L_size i11
  rw [List.length_map] at lS
  unfold jf_Sh_putUp kPt
  rw [y_gRs s1 s6, Option.bind_some, y_av i11.1, Option.bind_some, lS, Option.bind_some, kept_eq hp, Option.bind_some]
  dsimp only
  rw [y_gI s1 s2, Option.bind_some, show tf T 0 = nI (tN T 0) from e0.1, e0.1]
  by_cases hc : O.length < tN T 0
  · rw [if_pos (nI_lt hc (by omega)), if_neg (fun z => by have := (nI_eq (by omega) (by omega)).mp z; omega)]
    obtain ⟨y, T', L', O', t1, t2, t3, t4, t5, t6, t7, t8⟩ := tail_eq hh (by omega) hf hc hpar huq
    exact ⟨y, T', L', O', v, E + 4, t1, t2, t3, by omega, (t4 f).mpr (Or.inr rfl), fun w hw => (t4 w).mp hw, t5, t6, t7, t8⟩
  · have hle : O.length = tN T 0 := by omega
    rw [if_neg (nI_nlt (by omega) (by omega)), if_pos (by rw [hle]), y_av s1, Option.bind_some]
    obtain ⟨y1, T1, L1, O1, v1, E1, d1, d2, d3, d4, d5⟩ := dsp_eq hh (by omega) hf (by omega)
    obtain ⟨q1, q2, q3, q4, q5, q6, q7, q8⟩ := id d3
    rw [d1, Option.bind_some, d2, Option.bind_some]
    have n16 : tN T1 16 = tN T 16 := q2.n (by decide)
    have n0 : tN T1 0 = tN T 0 := q2.n (by decide)
    obtain ⟨y, T', L', O', t1, t2, t3, t4, t5, t6, t7, t8⟩ := tail_eq q1 (by omega) (by omega) (by omega) (fun u hu => by
      rw [q2.o] at hu
      exact d5 u (Or.inl hu) (hpar u hu)) (fun w hw => by
      rw [q2.y.v (t := 22) (by decide), q2.y.v (t := 22) (by decide)]
      exact huq w (q3.subset hw))
    exact ⟨y, T', L', O', v1, E1 + 4, t1, t2, t3, by omega, (t4 f).mpr (Or.inr rfl), fun w hw => ((t4 w).mp hw).imp (fun z => q3.subset z) id, q2.y.tr t5, q6.tr t6, by omega, by omega⟩
end PT
