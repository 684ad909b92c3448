/-! A context is built. -/
def tZ (T T' : tT) : Prop := (∀ k, [0, 2, 11, 16, 22].contains k = true → T'.1 k = T.1 k) ∧ ∀ t, [10, 11, 12, 13, 14, 15, 16, 17, 18, 19, 20, 22, 23, 100].contains t = true → T'.2 t = T.2 t
theorem tZ.rf (T : tT) : tZ T T := ⟨fun _ _ => rfl, fun _ _ => rfl⟩
theorem tZ.tr {T T' T'' : tT} (h : tZ T T') (g : tZ T' T'') : tZ T T'' := ⟨fun k hk => (g.1 k hk).trans (h.1 k hk), fun t ht => (g.2 t ht).trans (h.2 t ht)⟩
theorem in5 {k : Nat} (h : [0, 2, 11, 16, 22].contains k = true) : [21, 38].contains k = false ∧ [23, 32, 37, 38].contains k = false ∧ k ≠ 38 := by
  have : k = 0 ∨ k = 2 ∨ k = 11 ∨ k = 16 ∨ k = 22 := by simpa using h
  rcases this with rfl | rfl | rfl | rfl | rfl <;> exact ⟨by decide, by decide, by decide⟩
theorem in14 {t : Nat} (h : [10, 11, 12, 13, 14, 15, 16, 17, 18, 19, 20, 22, 23, 100].contains t = true) : [24, 35, 101, 103].contains t = false ∧ [25, 26, 27, 102, 31, 32, 33, 34, 35].contains t = false ∧ t ≠ 35 ∧ t ≠ 103 ∧ t ≠ 21 := by
  have : t = 10 ∨ t = 11 ∨ t = 12 ∨ t = 13 ∨ t = 14 ∨ t = 15 ∨ t = 16 ∨ t = 17 ∨ t = 18 ∨ t = 19 ∨ t = 20 ∨ t = 22 ∨ t = 23 ∨ t = 100 := by simpa using h
  rcases this with rfl | rfl | rfl | rfl | rfl | rfl | rfl | rfl | rfl | rfl | rfl | rfl | rfl | rfl <;> exact ⟨by decide, by decide, by decide, by decide, by decide⟩
theorem tY.z {T T' : tT} (h : tY T T') : tZ T T' := ⟨fun k hk => h.1 k (in5 hk).1, fun t ht => h.2 t (in14 ht).1⟩
theorem tC.z {T T' : tT} (h : tC T T') : tZ T T' := ⟨fun k hk => h.1 k (in5 hk).2.1, fun t ht => h.2 t (in14 ht).2.1⟩
theorem tZ.n {T T' : tT} (h : tZ T T') {k : Nat} (hk : [0, 2, 11, 16, 22].contains k = true) : tN T' k = tN T k := by unfold tN; rw [h.1 k hk]
theorem tZ.v {T T' : tT} (h : tZ T T') {t : Nat} (ht : [10, 11, 12, 13, 14, 15, 16, 17, 18, 19, 20, 22, 23, 100].contains t = true) (i : Nat) : tV T' t i = tV T t i := by unfold tV; rw [h.2 t ht]
theorem tZ.o {T T' : tT} (h : tZ T T') {t : Nat} (ht : [10, 11, 12, 13, 14, 15, 16, 17, 18, 19, 20, 22, 23, 100].contains t = true) (i : Nat) : tO T' t i = tO T t i := by unfold tO tV; rw [h.2 t ht]
section BD
variable {x y : q_S} {A : Nat → Nat} {T : tT} {E : Nat} {ab : Nat → Nat → Nat} {L : Nat → Option (List Nat)} {O : List Nat} {v sg : Nat → Nat → Int32} {rp : Nat → Nat}
set_option maxHeartbeats 1000000 in
theorem hI_fail {κ : Nat} {w : Int32} (hh : hI x A ab L O v sg rp T) (hκ : κ < tN T 11) (hr : rp κ = κ) (u : uF x y 8 6 (ab 8 κ) (.int w)) : hI y A ab L O v sg rp (tset T 21 (upd (T.2 21) κ w)) := by
  obtain ⟨⟨kn, hS, hR⟩, ⟨hJ, hw, l2, l7, l9, l10, l11, ln, li⟩, hDD, hKK, hCC, hBB⟩ := hh
  have U : ∀ d a, d ≠ 8 → un x y d a := fun d a hd => un_uF u (fun z => hd z.1)
  refine ⟨⟨kn, hS.fu (U _ _ (by decide)) (U _ _ (by decide)) (U _ _ (by decide)) (U _ _ (by decide)) (U _ _ (by decide)) (by rw [u.2.2.2.1]) (by rw [u.2.2.2.1]), hR⟩, ⟨jL_uF hJ u (by decide), wf_uF hw u, l2, l7, l9, l10, l11, ln, li⟩, fun i hi => ⟨(hDD i hi).1.fr (U 6 _ (by decide)), fun k hk => ((hDD i hi).2 k hk).fr (U 7 _ (by decide))⟩, ⟨fun j hj => ?_, hKK.2⟩, ⟨fun c' hc' => ⟨(hCC.1 c' hc').1.fr (U 9 _ (by decide)), by rw [u.2.2.2.1]; exact (hCC.1 c' hc').2⟩, hCC.2⟩, ⟨fun b hb => ⟨(hBB.1 b hb).1.fr (U 10 _ (by decide)), by rw [u.2.2.2.1]; exact (hBB.1 b hb).2⟩, hBB.2⟩⟩
  have hj : j < tN T 11 := hj
  have o := hKK.1 j hj
  have kk := hKK.2 j κ hj hκ
  rw [hr] at kk
  show oK y (ab 8 j) (nI (rp j)) (T.2 18 j) (T.2 19 j) (v 2 j) (v 3 j) ((tO T 20 j).map (ab 8)) (upd (T.2 21) κ w (rp j))
  by_cases e : rp j = κ
  · obtain ⟨o1, o2, o3, o4, o5, o6, o7, o8⟩ := o
    have ea := kk.mpr e
    have al : q_al y 8 (ab 8 j) = true := by rw [u.2.2.1]; exact o1
    have fd : ∀ i, i ≠ 6 → q_fd y 8 i (ab 8 j) = q_fd x 8 i (ab 8 j) := fun i hi => by rw [u.2.2.2.2.2.2, if_neg (fun z => hi z.2.1)]
    have fk : q_fd y 8 6 (ab 8 j) = .int (upd (T.2 21) κ w (rp j)) := by rw [u.2.2.2.2.2.2, if_pos ⟨rfl, rfl, ea⟩, e, upd_s]
    exact ⟨al, (fd 0 (by decide)).trans o2, (fd 1 (by decide)).trans o3, (fd 2 (by decide)).trans o4, (fd 3 (by decide)).trans o5, (fd 4 (by decide)).trans o6, (fd 5 (by decide)).trans o7, fk⟩
  · rw [upd_n e]
    exact o.fr (un_uF u (fun z => e (kk.mp z.2)))
theorem pI_fail {κ : Nat} (hp : pI T E O v sg rp) (hκ : κ < tN T 11) (h2 : tV T 21 κ < 2) : pI (tset T 21 (upd (T.2 21) κ (nI (tV T 21 κ + 1)))) E O v sg rp := by
  obtain ⟨hC, hD, hk, ⟨hb1, hb2, hb3⟩, hx, he, hr⟩ := hp
  refine ⟨hC, hD, hk, ⟨hb1, fun j => ?_, fun j hj => ?_⟩, hx, he, hr⟩
  · show upd (T.2 21) κ (nI (tV T 21 κ + 1)) j = nI (upd (T.2 21) κ (nI (tV T 21 κ + 1)) j).toNatClampNeg ∧ (upd (T.2 21) κ (nI (tV T 21 κ + 1)) j).toNatClampNeg ≤ 2
    by_cases e : j = κ
    · rw [e, upd_s, nI_clamp (by omega)]; exact ⟨rfl, by omega⟩
    · rw [upd_n e]; exact hb2 j
  · have hj : tN T 11 ≤ j := hj
    show upd (T.2 21) κ (nI (tV T 21 κ + 1)) j = 0
    rw [upd_n (by omega)]; exact hb3 j hj
set_option maxHeartbeats 4000000 in
theorem tback_eq {c κ : Nat} (hi : hI x A ab L O v sg rp T) (hp : pI T E O v sg rp) (hq : qF T v (some c)) (hE : E + 201 ≤ 1000000000) (hc : c < tN T 16) (hκ : tV T 22 c = κ) (h2 : tV T 21 κ < 2) (r : Int32) : ∃ y T', jf_Sh_takeBack x (A 5) (some (ab 9 c)) = some (y, ()) ∧ ((jt_Mo_destroy T (nI c)).bind fun p47 => (tl p47.1 21 8 (nI κ)).bind fun v50 => (tw p47.1 21 8 (nI κ) (v50 + 1)).bind fun T52 => (jt_Mo_note T52 3 (nI c)).bind fun p55 => some (p55.1, r)) = some (T', r) ∧ hP y A ab L O (upv v 1 c 1) sg rp T' (E + 201) none ∧ tZ T T' ∧ tN T' 23 = tN T 23 ∧ cFr x y ∧ q_sz y = q_sz x ∧ q_sl y = q_sl x := by
  have v1c : v 1 c = 0 := by
    rcases (hq c hc).2 with ⟨-, z, -⟩ | ⟨z, -⟩
    · exact z
    · exact absurd rfl z
  have k0c : T.2 101 c = 0 := by
    rcases (hq c hc).2 with ⟨-, -, z⟩ | ⟨z, -⟩
    · exact z
    · exact absurd rfl z
  obtain ⟨y1, T1, d1, d2, d3, d4, d5, d6, d7, d8⟩ := dst_eq hi hp (by omega) hc v1c
  have Z1 := d5.b.y.z
  have n16 : tN T1 16 = tN T 16 := Z1.n (by decide)
  have n11 : tN T1 11 = tN T 11 := Z1.n (by decide)
  have h8 := d4.1.2.1.2
  have h30 := d4.1.2.2.1.2
  obtain ⟨⟨c1, c2, c3⟩, -⟩ := d4.2.2.2.2.1.1 c (by omega)
  have t22 : tV T1 22 c = κ := (Z1.v (by decide) c).trans hκ
  rw [t22] at c1 c2 c3
  have r21 : T1.2 21 = T.2 21 := d5.2 21 (by decide) (by decide)
  have t21 := d4.2.2.2.1.2.1 κ
  have e21 : tV T1 21 κ = tV T 21 κ := by unfold tV; rw [r21]
  obtain ⟨⟨kn, ⟨-, -, -, ⟨w1, -⟩, ⟨s1, s2, s3, s4, s5, s6⟩, -⟩, hR⟩, -⟩ := id hi
  obtain ⟨⟨g1, g2, g3, -⟩, -⟩ := d3.2.2.2.2.1.1 c (by omega)
  rw [t22] at g3
  obtain ⟨k1, k2, k3, k4, k5, k6, k7, k8⟩ := d3.2.2.2.1.1 κ c2
  rw [c3] at k8
  unfold jf_Sh_takeBack
  rw [y_gRs s1 s3, Option.bind_some, y_av w1, Option.bind_some, d1, Option.bind_some, d2, Option.bind_some]
  dsimp only
  rw [y_gRs g1 g3, Option.bind_some, y_gI k1 k8, Option.bind_some, tl_n (by omega) (by decide), Option.bind_some, t21.1, nI_1, y_pI k1, Option.bind_some, tw_n (by omega) (by decide), Option.bind_some]
  have u := uF_of y1 8 6 (ab 8 κ) (.int (nI (tV T1 21 κ + 1)))
  generalize q_putF y1 8 6 (ab 8 κ) (.int (nI (tV T1 21 κ + 1))) = y2 at u ⊢
  have H2 := hI_fail d3 c2 c3 u
  have P2 := pI_fail d4 c2 (by rw [e21]; exact h2)
  have Z2 : tZ T1 (tset T1 21 (upd (T1.2 21) κ (nI (tV T1 21 κ + 1)))) := ⟨fun _ _ => rfl, fun t ht => if_neg (in14 ht).2.2.2.2⟩
  have r101 : (tset T1 21 (upd (T1.2 21) κ (nI (tV T1 21 κ + 1)))).2 101 = T.2 101 := d5.2 101 (by decide) (by decide)
  have m16 : tN (tset T1 21 (upd (T1.2 21) κ (nI (tV T1 21 κ + 1)))) 16 = tN T 16 := n16
  have m23 : tN (tset T1 21 (upd (T1.2 21) κ (nI (tV T1 21 κ + 1)))) 23 = tN T 23 := d5.b.n (by decide)
  generalize tset T1 21 (upd (T1.2 21) κ (nI (tV T1 21 κ + 1))) = T2 at H2 P2 Z2 r101 m16 m23 ⊢
  obtain ⟨⟨kn3, ⟨-, -, ⟨j1, -⟩, -, ⟨t1, t2, t3, t4, t5, t6⟩, -⟩, hR3⟩, -, -, -, hC3, -⟩ := id H2
  obtain ⟨⟨e1, e2, -⟩, -⟩ := hC3.1 c (by omega)
  have e38 := P2.1.2.2.2.2.2.2.1
  obtain ⟨y4, f1, f2, f3, f4, f5, -⟩ := write_eq H2 e38.1 (by omega) 3 (nI c)
  rw [y_gRs t1 t4, Option.bind_some, y_gI e1 e2, Option.bind_some, y_av j1, Option.bind_some, f1, Option.bind_some, note_eq e38.1 (by omega), Option.bind_some]
  refine ⟨y4, _, rfl, rfl, ⟨f2, pI_note P2 (by omega), fun c' hc' => ?_⟩, (Z1.tr Z2).tr (tY_note T2).z, m23, (d6.tr (cFr_uF u (by decide))).tr f3, by rw [f4, u.1, d7], by rw [f5, u.2.1, d8]⟩
  have hc' : c' < tN T2 16 := hc'
  obtain ⟨z1, z2⟩ := hq c' (by omega)
  refine ⟨by rw [upv_n (fun z => by cases z.1)]; exact z1, Or.inr ⟨(fun z => by cases z), ?_⟩⟩
  show upv v 1 c 1 1 c' = if T2.2 101 c' = 1 then 0 else 1
  rw [r101]
  by_cases e : c' = c
  · rw [e, upv_s, k0c, if_neg (by decide)]
  · rw [upv_n (fun z => e z.2)]
    rcases z2 with ⟨z, -⟩ | ⟨-, z⟩
    · cases z; exact absurd rfl e
    · exact z
/-- what a build gives -/
def bdO (A : Nat → Nat) (rp : Nat → Nat) (E c κ a b : Nat) (O : List Nat) (x : q_S) (T : tT) (ab : Nat → Nat → Nat) (o : Option (q_S × Int32)) (t : Option (tT × Int32)) : Prop :=
  ∃ y rr T' ab' L' O' v' sg' E', o = some (y, rr) ∧ t = some (T', rr) ∧ hP y A ab' L' O' v' sg' rp T' E' none ∧ E' ≤ E ∧ tZ T T' ∧ (∀ i, ab' 8 i = ab 8 i) ∧ cFr x y ∧ tN T 23 ≤ tN T' 23 ∧ q_sz y + 3 * tN T 23 ≤ q_sz x + 3 * tN T' 23 + a ∧ q_sl y + 2000 * tN T 23 ≤ q_sl x + 2000 * tN T' 23 + b ∧ ((rr = nI c ∧ c ∈ O' ∧ (∀ w, w ∈ O' → w ∈ O ∨ w = c) ∧ T'.2 21 = T.2 21) ∨ rr < -1)
theorem cls_end {c κ : Nat} (hh : hI x A ab L O v sg rp T) (hp : pI T E O v sg rp) (hκ : κ < tN T 11) : ∀ (r i m : Nat), i + r = 10 → tN T 2 ≤ i → r < m → jf_Sh_build_L44 m x (A 5) (some (ab 8 κ)) (some (ab 9 c)) (nI i) = (jf_Sh_putUp x (A 5) (some (ab 9 c))).bind fun p25 => (q_gI p25.1 (some (ab 9 c)) 9 0).bind fun v29 => some (p25.1, v29) := by
  obtain ⟨k1, k2, k3, k4, k5, k6, -⟩ := hh.2.2.2.1.1 κ hκ
  have s1 : q_al x 5 (A 5) = true := by
    obtain ⟨⟨kn, ⟨-, -, -, -, ⟨s1, -⟩, -⟩, -⟩, -⟩ := id hh
    exact s1
  obtain ⟨b1, b2, -, b4⟩ := hp.2.2.2.1.1 κ hκ
  intro r
  induction r with
  | zero =>
    intro i m hi _ hm
    obtain ⟨m, rfl⟩ : ∃ m', m = m' + 1 := ⟨m - 1, by omega⟩
    show jf_Sh_build_B44 (jf_Sh_build_L44 m) x (A 5) (some (ab 8 κ)) (some (ab 9 c)) (nI i) = _
    unfold jf_Sh_build_B44
    rw [show i = 10 by omega, if_pos (show (10 : Int32) ≤ nI 10 by decide), y_av s1, Option.bind_some]
  | succ r ih =>
    intro i m hi hn hm
    obtain ⟨m, rfl⟩ : ∃ m', m = m' + 1 := ⟨m - 1, by omega⟩
    show jf_Sh_build_B44 (jf_Sh_build_L44 m) x (A 5) (some (ab 8 κ)) (some (ab 9 c)) (nI i) = _
    unfold jf_Sh_build_B44
    rw [if_neg (show ¬ (10 : Int32) ≤ nI i from nI_ge (a := i) (b := 10) (by omega) (by decide)), y_gI k1 k6, Option.bind_some, nI_1]
    rcases cont_eq x (v 3 κ) i with ⟨c1, c2⟩ | ⟨c1, c2⟩
    · exfalso
      rcases (b4 i (by omega)).mp c1 with z | z
      · have := b1 i (by omega) (b2 i (by omega) z); omega
      · have := b1 i (by omega) z.1; omega
    · rw [c2, Option.bind_some]
      dsimp only
      rw [if_pos i00]
      exact ih (i + 1) m (by omega) (by omega) (by omega)
set_option maxHeartbeats 8000000 in
theorem bld_L {E0 c κ : Nat} (hE : E0 + 2000 ≤ 1000000000) : ∀ (r i m m2 : Nat) (x : q_S) (T : tT) (ab : Nat → Nat → Nat) (L : Nat → Option (List Nat)) (sg : Nat → Nat → Int32), i + r = tN T 2 → r < m2 → 10 - i < m → hI x A ab L O v sg rp T → pI T (E0 + tN T 23) O v sg rp → qF T v (some c) → c < tN T 16 → tV T 22 c = κ → tV T 21 κ < 2 → (∀ u, tO T 23 c = some u → u ∈ O) → (∀ w, w ∈ O → tV T 22 w ≠ κ) → bdO A rp (E0 + 1600) c κ 67 760 O x T ab (jf_Sh_build_L44 m x (A 5) (some (ab 8 κ)) (some (ab 9 c)) (nI i)) (jt_Mo_build_L44 m2 T (nI κ) (nI c) (nI i)) := by
  intro r
  induction r with
  | zero =>
    intro i m m2 x T ab L sg hir hm2 hm hi hp hq hc hκ h2 hpar huq
    obtain ⟨m2, rfl⟩ : ∃ m', m2 = m' + 1 := ⟨m2 - 1, by omega⟩
    have h10 := hp.1.1.2
    have h200 := hp.1.2.2.2.1.2
    have hκn : κ < tN T 11 := by have := (hp.2.2.2.2.1.1 c hc).1.2.1; omega
    have e2 : tf T 2 = nI (tN T 2) := hp.1.1.1
    obtain ⟨y, T', L', O', v', E', p1, p2, p3, p4, p5, p6, p7, p8, p9, p10⟩ := put_eq ⟨hi, hp, hq⟩ (by omega) hc hpar (fun w hw => by rw [hκ]; exact huq w hw)
    have n16 : tN T' 16 = tN T 16 := p7.n (by decide)
    obtain ⟨⟨g1, g2, -⟩, -⟩ := p3.1.2.2.2.2.1.1 c (by omega)
    have n23 : tN T' 23 = tN T 23 := p7.n (by decide)
    rw [cls_end hi hp hκn (10 - i) i m (by omega) (by omega) (by omega), p1, Option.bind_some]
    dsimp only
    rw [y_gI g1 g2, Option.bind_some]
    refine ⟨y, nI c, T', ab, L', O', v', sg, E', rfl, ?_, p3, by omega, p7.z, fun _ => rfl, p8, by omega, by omega, by omega, Or.inl ⟨rfl, p5, p6, p7.2 21 (by decide)⟩⟩
    show jt_Mo_build_B44 (jt_Mo_build_L44 m2) T (nI κ) (nI c) (nI i) = _
    unfold jt_Mo_build_B44
    rw [e2, if_pos (nI_le (by omega) (by omega))]
    exact p2
  | succ r ih =>
    intro i m m2 x T ab L sg hir hm2 hm hi hp hq hc hκ h2 hpar huq
    obtain ⟨m2, rfl⟩ : ∃ m', m2 = m' + 1 := ⟨m2 - 1, by omega⟩
    obtain ⟨m, rfl⟩ : ∃ m', m = m' + 1 := ⟨m - 1, by omega⟩
    have h10 := hp.1.1.2
    have h30 := hp.1.2.2.1.2
    have h200 := hp.1.2.2.2.1.2
    have hid : i < tN T 2 := by omega
    have hκn : κ < tN T 11 := by have := (hp.2.2.2.2.1.1 c hc).1.2.1; omega
    have e2 : tf T 2 = nI (tN T 2) := hp.1.1.1
    obtain ⟨k1, k2, k3, k4, k5, k6, -⟩ := hi.2.2.2.1.1 κ hκn
    obtain ⟨⟨kn, ⟨-, -, -, ⟨w1, -⟩, ⟨s1, s2, s3, -⟩, -⟩, hR⟩, -⟩ := id hi
    obtain ⟨b1, b2, b3, b4⟩ := hp.2.2.2.1.1 κ hκn
    have isin := isin_eq hp.1 hp.2.2.2.2.1 hc (d := i) (by omega)
    have mck := mck_eq hp.1 hp.2.2.2.2.1 hc (d := i) (by omega)
    rw [hκ] at isin mck
    have nx := ih (i + 1) m m2 x T ab L sg (by omega) (by omega) (by omega) hi hp hq hc hκ h2 hpar huq
    show bdO A rp (E0 + 1600) c κ 67 760 O x T ab (jf_Sh_build_B44 (jf_Sh_build_L44 m) x (A 5) (some (ab 8 κ)) (some (ab 9 c)) (nI i)) (jt_Mo_build_B44 (jt_Mo_build_L44 m2) T (nI κ) (nI c) (nI i))
    unfold jf_Sh_build_B44 jt_Mo_build_B44
    rw [e2, if_neg (nI_ge hid (by omega)), if_neg (show ¬ (10 : Int32) ≤ nI i from nI_ge (a := i) (b := 10) (by omega) (by decide)), y_gI k1 k6, Option.bind_some, nI_1]
    -- the definition is eager: both supply
    have eag : hs (v 3 κ) i → bdO A rp (E0 + 1600) c κ 67 760 O x T ab ((q_gR x (some (A 5)) 5 1).bind fun v37 => (q_av x v37 4).bind fun b41 => (jf_Wo_supply (jg_Wo_supplyNeed 40) x b41 (some (ab 9 c)) (nI i) 0).bind fun p39 => if 0 ≤ p39.2 then jf_Sh_build_L44 m p39.1 (A 5) (some (ab 8 κ)) (some (ab 9 c)) (nI (i + 1)) else (q_av p39.1 (some (A 5)) 5).bind fun b46 => (jf_Sh_takeBack p39.1 b46 (some (ab 9 c))).bind fun p44 => some (p44.1, p39.2)) ((jt_Mo_beanOf T (nI c) (nI i)).bind fun p41 => if p41.2 < 0 then (jt_Mo_supply p41.1 (nI c) (nI i)).bind fun p44 => if 0 ≤ p44.2 then jt_Mo_build_L44 m2 p44.1 (nI κ) (nI c) (nI (i + 1)) else (jt_Mo_destroy p44.1 (nI c)).bind fun p47 => (tl p47.1 21 8 (nI κ)).bind fun v50 => (tw p47.1 21 8 (nI κ) (v50 + 1)).bind fun T52 => (jt_Mo_note T52 3 (nI c)).bind fun p55 => some (p55.1, p44.2) else jt_Mo_build_L44 m2 p41.1 (nI κ) (nI c) (nI (i + 1))) := fun he => by
      have hin : hs (T.2 18 κ) i := by
        rcases (b4 i (by omega)).mp he with z | z
        · exact b2 i (by omega) z
        · exact z.1
      have hsg : hs (v 2 κ) i := by
        rcases (b4 i (by omega)).mp he with z | z
        · exact (b3 i (by omega)).mpr (Or.inl z)
        · exact (b3 i (by omega)).mpr (Or.inr ⟨z.1, ((and6 _).mp z.2).1⟩)
      obtain ⟨o, o1, o2⟩ := hp.2.2.2.2.2.1.2.2 c i hc (by omega) (by rw [hκ]; exact hsg)
      rw [y_gRs s1 s3, Option.bind_some, y_av w1, Option.bind_some, bnOf_eq hp (by omega) (by omega) o2, Option.bind_some]
      dsimp only
      cases o with
      | some b =>
        have hb := (o2 b).mp rfl
        rw [if_neg (show ¬ oI (some b) < 0 from nI_pos (by omega))]
        rcases pre_eq hi hp hc hid (by rw [hκ]; exact hin) (jg_Wo_supplyNeed 40) 0 with ⟨b', hb', -, -, -, e2'⟩ | ⟨-, -, hun⟩
        · rw [e2', Option.bind_some]
          dsimp only
          rw [if_pos (nI_pos' (by omega))]
          exact nx
        · exact absurd hb.2 (hun (by rw [hκ]; exact hsg) b hb.1)
      | none =>
        rw [if_pos (show oI none < 0 by decide)]
        have kept : ∀ h', chn T c h' → v 1 h' = 0 := fun h' z => by
          have hr1 := hp.2.2.2.2.2.2.1
          have keptO : ∀ w, w ∈ O → v 1 w = 0 := fun w hw => by
            have hw' := (hr1 w).mp hw
            rcases (hq w hw'.1).2 with ⟨-, z, -⟩ | ⟨-, z⟩
            · exact z
            · rw [z, if_pos hw'.2]
          rcases z with rfl | z | ⟨u, z1, z2⟩
          · rcases (hq h' hc).2 with ⟨-, z, -⟩ | ⟨z, -⟩
            · exact z
            · exact absurd rfl z
          · exact keptO h' (hpar h' z)
          · have hu := (hr1 u).mp (hpar u z1)
            have := (hp.2.2.2.2.1.1 u hu.1).2.1.2 h' z2
            exact keptO h' ((hr1 h').mpr ⟨by omega, this.2 hu.2⟩)
        obtain ⟨y, rr, T2, ab', L', sg', q1, q2, q3, q4, q5, q6, q7, q8, q9⟩ := supply_eq (E0 := E0) (n := 40) (c := c) (d := i) (by omega) (by decide) hi hp hc (fun c' hc' => (hq c' hc').1) kept hid (by rw [hκ]; exact hin)
        have m200 := q4.1.2.2.2.1.2
        have n16 : tN T2 16 = tN T 16 := q5.n (by decide)
        have n2 : tN T2 2 = tN T 2 := q5.n (by decide)
        have Q2 : qF T2 v (some c) := fun c' hc' => by
          rw [n16] at hc'
          rw [q5.2 101 (by decide)]
          exact hq c' hc'
        have a8 : ab' 8 κ = ab 8 κ := q7 8 κ (by decide) (by decide)
        have a9 : ab' 9 c = ab 9 c := q7 9 c (by decide) (by decide)
        have t22 : tV T2 22 c = κ := (q5.v (by decide) c).trans hκ
        have t21 : tV T2 21 κ < 2 := by rw [q5.v (by decide)]; exact h2
        rw [q1, Option.bind_some, q2, Option.bind_some]
        dsimp only
        rcases q9 with ⟨b, rfl, hb, z1, z2⟩ | ⟨hlt, z1, z2⟩
        · rw [if_pos (nI_pos' (by omega)), if_pos (nI_pos' (by omega))]
          have nx2 := ih (i + 1) m m2 y T2 ab' L' sg' (by omega) (by omega) (by omega) q3 q4 Q2 (by omega) t22 t21 (fun u hu => hpar u (by rw [← q5.o]; exact hu)) (fun w hw => by rw [q5.v (t := 22) (by decide)]; exact huq w hw)
          rw [a8, a9] at nx2
          obtain ⟨y', rr, T', ab'', L'', O', v', sg'', E', p1, p2, p3, p4, p5, p6, p7, p8, p9, p10, p11⟩ := nx2
          refine ⟨y', rr, T', ab'', L'', O', v', sg'', E', p1, p2, p3, p4, q5.z.tr p5, fun j => (p6 j).trans (q7 8 j (by decide) (by decide)), q8.tr p7, by omega, by omega, by omega, ?_⟩
          rcases p11 with ⟨t1, t2, t3, t4⟩ | t
          · exact Or.inl ⟨t1, t2, t3, t4.trans (q5.2 21 (by decide))⟩
          · exact Or.inr t
        · have hneg : ¬ 0 ≤ rr := fun z => by
            rw [Int32.le_iff_toInt_le] at z
            rw [Int32.lt_iff_toInt_lt] at hlt
            have e1 : (-1 : Int32).toInt = -1 := by decide
            have e2 : (0 : Int32).toInt = 0 := by decide
            omega
          have s5 : q_al y 5 (A 5) = true := by
            obtain ⟨⟨kn', ⟨-, -, -, -, ⟨s1, -⟩, -⟩, -⟩, -⟩ := id q3
            exact s1
          obtain ⟨y', T', f1, f2, f3, f4, f5, f6, f7, f8⟩ := tback_eq q3 q4 Q2 (by omega) (by omega) t22 t21 rr
          rw [if_neg hneg, if_neg hneg, y_av s5, Option.bind_some]
          rw [a9] at f1
          rw [f1, Option.bind_some]
          dsimp only
          rw [f2]
          exact ⟨y', rr, T', ab', L', O, _, sg', _, rfl, rfl, f3, by omega, q5.z.tr f4, fun j => q7 8 j (by decide) (by decide), q8.tr f6, by omega, by omega, by omega, Or.inr hlt⟩
    have noe : ¬ hs (v 3 κ) i → bdO A rp (E0 + 1600) c κ 67 760 O x T ab ((jf_Bc_contains x (v 3 κ) (nI i)).bind fun p33 => if p33.2 = 0 then jf_Sh_build_L44 m p33.1 (A 5) (some (ab 8 κ)) (some (ab 9 c)) (nI (i + 1)) else (q_gR p33.1 (some (A 5)) 5 1).bind fun v37 => (q_av p33.1 v37 4).bind fun b41 => (jf_Wo_supply (jg_Wo_supplyNeed 40) p33.1 b41 (some (ab 9 c)) (nI i) 0).bind fun p39 => if 0 ≤ p39.2 then jf_Sh_build_L44 m p39.1 (A 5) (some (ab 8 κ)) (some (ab 9 c)) (nI (i + 1)) else (q_av p39.1 (some (A 5)) 5).bind fun b46 => (jf_Sh_takeBack p39.1 b46 (some (ab 9 c))).bind fun p44 => some (p44.1, p39.2)) (jt_Mo_build_L44 m2 T (nI κ) (nI c) (nI (i + 1))) := fun hn => by
      rcases cont_eq x (v 3 κ) i with ⟨c1, -⟩ | ⟨-, c2⟩
      · exact absurd c1 hn
      · rw [c2, Option.bind_some]
        dsimp only
        rw [if_pos i00]
        exact nx
    rcases isin with ⟨a1, a2⟩ | ⟨a1, a2⟩
    · rw [a2, Option.bind_some]
      dsimp only
      rw [if_neg i10]
      rcases mck with ⟨m1, mm2⟩ | ⟨m1, mm2⟩
      · rw [mm2, Option.bind_some]
        dsimp only
        rw [if_neg i10]
        have he : hs (v 3 κ) i := (b4 i (by omega)).mpr (Or.inl m1)
        rcases cont_eq x (v 3 κ) i with ⟨c1, c2⟩ | ⟨c1, -⟩
        · rw [c2, Option.bind_some]
          dsimp only
          rw [if_neg i10]
          exact eag he
        · exact absurd he c1
      · rw [mm2, Option.bind_some]
        dsimp only
        rw [if_pos i00, tl_n (by omega) (by decide), Option.bind_some]
        by_cases h6 : T.2 11 i &&& 6 = 0
        · rw [if_pos h6]
          have he : hs (v 3 κ) i := (b4 i (by omega)).mpr (Or.inr ⟨a1, h6⟩)
          rcases cont_eq x (v 3 κ) i with ⟨c1, c2⟩ | ⟨c1, -⟩
          · rw [c2, Option.bind_some]
            dsimp only
            rw [if_neg i10]
            exact eag he
          · exact absurd he c1
        · rw [if_neg h6]
          exact noe (fun z => by
            rcases (b4 i (by omega)).mp z with z | z
            · exact m1 z
            · exact h6 z.2)
    · rw [a2, Option.bind_some]
      dsimp only
      rw [if_pos i00]
      exact noe (fun z => by
        rcases (b4 i (by omega)).mp z with z | z
        · exact a1 (b2 i (by omega) z)
        · exact a1 z.1)
end BD
