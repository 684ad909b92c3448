/-! One context is closed. -/
def kCl (x : q_S) (l0 : Nat) (l1 : Option Nat) (l2 : Int32) : Option (q_S × Int32) :=
    (q_gR x (some l0) 5 1).bind fun v10 =>
    (q_av x v10 4).bind fun b14 =>
    (jf_Wo_destroyBeans x b14 l1).bind fun p12 =>
    (q_pZ p12.1 l1 9 5 0).bind fun x16 =>
    (q_av x16 (some l0) 5).bind fun b20 =>
    (jf_Sh_removeFromOrder x16 b20 l1).bind fun p18 =>
    (q_gR p18.1 (some l0) 5 2).bind fun v22 =>
    (q_gI p18.1 l1 9 0).bind fun v24 =>
    (q_av p18.1 v22 3).bind fun b28 =>
    (jf_Jo_write p18.1 b28 5 v24).bind fun p26 =>
    some (p26.1, l2)
section CO
variable {x y : q_S} {A : Nat → Nat} {T : tT} {E : Nat} {ab : Nat → Nat → Nat} {L L' : Nat → Option (List Nat)} {O O' : List Nat} {v sg : Nat → Nat → Int32} {rp : Nat → Nat} {fo : Option Nat}
/-- as qI, but fo may be under way: neither kept nor gone -/
def qF (T : tT) (v : Nat → Nat → Int32) (fo : Option Nat) : Prop := ∀ c, c < tN T 16 → v 0 c = 0 ∧ ((fo = some c ∧ v 1 c = 0 ∧ T.2 101 c = 0) ∨ (fo ≠ some c ∧ v 1 c = if T.2 101 c = 1 then 0 else 1))
theorem qF_of (h : qI T v) : qF T v none := fun c hc => ⟨(h c hc).1, Or.inr ⟨(fun z => by cases z), (h c hc).2⟩⟩
theorem qF_to (h : qF T v none) : qI T v := fun c hc => ⟨(h c hc).1, ((h c hc).2.resolve_left (fun z => by cases z.1)).2⟩
def hP (x : q_S) (A : Nat → Nat) (ab : Nat → Nat → Nat) (L : Nat → Option (List Nat)) (O : List Nat) (v sg : Nat → Nat → Int32) (rp : Nat → Nat) (T : tT) (E : Nat) (fo : Option Nat) : Prop := hI x A ab L O v sg rp T ∧ pI T E O v sg rp ∧ qF T v fo
def tB (T T' : tT) : Prop := (∀ k, k ≠ 38 → T'.1 k = T.1 k) ∧ ∀ t, t ≠ 35 → t ≠ 103 → t ≠ 101 → T'.2 t = T.2 t
theorem tB.rf (T : tT) : tB T T := ⟨fun _ _ => rfl, fun _ _ _ _ => rfl⟩
theorem tB.tr {T T' T'' : tT} (h : tB T T') (g : tB T' T'') : tB T T'' := ⟨fun k hk => (g.1 k hk).trans (h.1 k hk), fun t h1 h2 h3 => (g.2 t h1 h2 h3).trans (h.2 t h1 h2 h3)⟩
theorem tA.b {T T' : tT} (h : tA T T') : tB T T' := ⟨h.1, fun t h1 h2 _ => h.2 t h1 h2⟩
theorem tB.o {T T' : tT} (h : tB T T') (d : Nat) : tO T' 23 d = tO T 23 d := by unfold tO tV; rw [h.2 23 (by decide) (by decide) (by decide)]
theorem tB.n {T T' : tT} (h : tB T T') {k : Nat} (hk : k ≠ 38) : tN T' k = tN T k := by unfold tN; rw [h.1 k hk]
theorem pI_cls {c : Nat} (hp : pI T E O v sg rp) (hno : ∀ d, d ∈ O → tO T 23 d ≠ some c) (hm : ∀ w, w ∈ O' ↔ w ∈ O ∧ w ≠ c) (hsl : O'.Sublist O) : pI (tset T 101 (upd (T.2 101) c 0)) E O' v sg rp := by
  obtain ⟨hC, hD, hk, hB, ⟨hx1, hx2⟩, he, ⟨hr1, hr2, hr3, hr4⟩⟩ := hp
  refine ⟨hC, hD, hk, hB, ⟨fun d hd => ?_, fun d hd => ?_⟩, he, ⟨fun w => ?_, hr2.sublist hsl, Nat.le_trans hsl.length_le hr3, fun a b ha hb => hr4 a b ((hm a).mp ha).1 ((hm b).mp hb).1⟩⟩
  · have hd : d < tN T 16 := hd
    obtain ⟨q1, ⟨q2, q3⟩, q4, q5, q6⟩ := hx1 d hd
    refine ⟨q1, ⟨q2, fun u hu => ⟨(q3 u hu).1, fun h1 => ?_⟩⟩, q4, ?_, q6⟩
    · have h1 : upd (T.2 101) c 0 d = 1 := h1
      have hu : tO T 23 d = some u := hu
      show upd (T.2 101) c 0 u = 1
      by_cases e : d = c
      · rw [e, upd_s] at h1; exact absurd h1 (by decide)
      · rw [upd_n e] at h1
        have := (q3 u hu).2 h1
        by_cases e2 : u = c
        · exact absurd (by rw [← e2]; exact hu) (hno d ((hr1 d).mpr ⟨hd, h1⟩))
        · rw [upd_n e2]; exact this
    · show upd (T.2 101) c 0 d = 0 ∨ upd (T.2 101) c 0 d = 1
      by_cases e : d = c
      · rw [e, upd_s]; exact Or.inl rfl
      · rw [upd_n e]; exact q5
  · refine ⟨?_, (hx2 d hd).2⟩
    show upd (T.2 101) c 0 d = 0
    by_cases e : d = c
    · rw [e, upd_s]
    · rw [upd_n e]; exact (hx2 d hd).1
  · show w ∈ O' ↔ w < tN T 16 ∧ upd (T.2 101) c 0 w = 1
    rw [hm, hr1]
    by_cases e : w = c
    · rw [e, upd_s]; exact ⟨fun z => absurd rfl z.2, fun z => absurd z.2 (by decide)⟩
    · rw [upd_n e]; exact ⟨fun z => z.1, fun z => ⟨z, e⟩⟩
theorem hP.lt (hh : hP x A ab L O v sg rp T E fo) {c : Nat} (hc : c ∈ O) : c < tN T 16 ∧ T.2 101 c = 1 ∧ v 1 c = 0 := by
  obtain ⟨-, hp, hq⟩ := hh
  have hcm := (hp.2.2.2.2.2.2.1 c).mp hc
  refine ⟨hcm.1, hcm.2, ?_⟩
  rcases (hq c hcm.1).2 with ⟨-, -, h⟩ | ⟨-, h⟩
  · rw [hcm.2] at h; exact absurd h (by decide)
  · rw [h, if_pos hcm.2]
set_option maxHeartbeats 2000000 in
theorem clo_eq {c : Nat} (hh : hP x A ab L O v sg rp T E fo) (hE : E + 201 ≤ 1000000000) (hc : c ∈ O) (hno : ∀ d, d ∈ O → tO T 23 d ≠ some c) (s : Int32) : ∃ y T' L' O', kCl x (A 5) (some (ab 9 c)) s = some (y, s) ∧ jt_Mo_closeOne T (nI c) = some (T', ()) ∧ hP y A ab L' O' (upv v 1 c 1) sg rp T' (E + 201) fo ∧ tB T T' ∧ (∀ w, w ∈ O' ↔ w ∈ O ∧ w ≠ c) ∧ O'.length + 1 = O.length ∧ O'.Sublist O ∧ cFr x y ∧ q_sz y = q_sz x ∧ q_sl y = q_sl x := by
  obtain ⟨hcn, hck, hv⟩ := hh.lt hc
  obtain ⟨hi, hp, hq⟩ := hh
  obtain ⟨y1, T1, d1, d2, d3, d4, d5, d6, d7, d8⟩ := dst_eq hi hp (by omega) hcn hv
  have n16 : tN T1 16 = tN T 16 := d5.b.n (by decide)
  have hc1 : c < tN T1 16 := by omega
  obtain ⟨⟨kn, ⟨-, -, -, ⟨w1, -⟩, ⟨s1, s2, s3, s4, s5, s6⟩, -⟩, hR⟩, -⟩ := hi
  have g1 := (d3.2.2.2.2.1.1 c hc1).1.1
  have h30 := d4.1.2.2.1.2
  unfold kCl jt_Mo_closeOne
  rw [y_gRs s1 s3, Option.bind_some, y_av w1, Option.bind_some, d1, Option.bind_some, d2, Option.bind_some]
  dsimp only
  rw [y_pZ g1 (Or.inl rfl), Option.bind_some, show ((0 : Int32) &&& 1) = 0 by decide, tw_n (by omega) (by decide), Option.bind_some]
  have u := uF_of y1 9 5 (ab 9 c) (.int 0)
  generalize q_putF y1 9 5 (ab 9 c) (.int 0) = x2 at u ⊢
  have H2 := hI_kept d3 hc1 u
  have s1' : q_al x2 5 (A 5) = true := by
    have := H2.1
    obtain ⟨kn', ⟨-, -, -, -, ⟨t1, -⟩, -⟩, -⟩ := this
    exact t1
  have hr := d4.2.2.2.2.2.2
  obtain ⟨y3, L', O', r1, r2, r3, r4, r5, r6, r7, r8, r9⟩ := rm_eq (c := c) H2 (fun d hd => ((hr.1 d).mp hd).1) (srt_nd hr.2.1) (by have := hr.2.2.1; have := d4.1.2.2.2.2.1.2.2; omega) hc1
  rw [y_av s1', Option.bind_some, r1, Option.bind_some]
  dsimp only
  have P1 := pI_cls (c := c) (O' := O') d4 (fun d hd => by rw [d5.b.o]; exact hno d hd) r3 r4
  obtain ⟨⟨kn3, ⟨-, -, ⟨j1, -⟩, -, ⟨t1, t2, t3, t4, t5, t6⟩, -⟩, hR3⟩, -, -, -, hC3, -⟩ := id r2
  obtain ⟨⟨c1, c2, -⟩, -⟩ := hC3.1 c hc1
  have e38 := P1.1.2.2.2.2.2.2.1
  have hEE := P1.1.2.2.2.2.2.2.2.2
  obtain ⟨y4, f1, f2, f3, f4, f5, -⟩ := write_eq r2 e38.1 (by omega) 5 (nI c)
  rw [y_gRs t1 t4, Option.bind_some, y_gI c1 c2, Option.bind_some, y_av j1, Option.bind_some, f1, Option.bind_some, note_eq e38.1 (by omega), Option.bind_some]
  refine ⟨y4, _, L', O', rfl, rfl, ⟨f2, pI_note P1 hE, fun d hd => ?_⟩, ?_, r3, r5 hc, r4, ((d6.tr (cFr_uF u (by decide))).tr r6).tr f3, by rw [f4, r7, u.1, d7], by rw [f5, r8, u.2.1, d8]⟩
  · have hd : d < tN T1 16 := hd
    rw [n16] at hd
    obtain ⟨z1, z2⟩ := hq d hd
    refine ⟨z1, ?_⟩
    show (fo = some d ∧ upv v 1 c 1 1 d = 0 ∧ upd (T1.2 101) c 0 d = 0) ∨ (fo ≠ some d ∧ upv v 1 c 1 1 d = if upd (T1.2 101) c 0 d = 1 then 0 else 1)
    by_cases e : d = c
    · subst e
      rw [upv_s, upd_s]
      rcases z2 with ⟨-, -, z⟩ | ⟨z, -⟩
      · rw [hck] at z; exact absurd z (by decide)
      · exact Or.inr ⟨z, by rw [if_neg (by decide)]⟩
    · rw [upv_n (fun z => e z.2), upd_n e, d5.2 101 (by decide) (by decide)]
      exact z2
  · refine ⟨fun k hk => ?_, fun t h1 h2 h3 => ?_⟩
    · show (if k = 38 then _ else T1.1 k) = T.1 k
      rw [if_neg hk]; exact d5.1 k hk
    · show (if t = 35 then _ else if t = 101 then _ else T1.2 t) = T.2 t
      rw [if_neg h1, if_neg h3]; exact d5.2 t h1 h2
end CO
