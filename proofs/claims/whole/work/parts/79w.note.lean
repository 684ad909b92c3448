/-! An event is written. -/
section NT
variable {x y : q_S} {A : Nat → Nat} {T : tT} {E : Nat} {ab : Nat → Nat → Nat} {L : Nat → Option (List Nat)} {O : List Nat} {v sg : Nat → Nat → Int32} {rp : Nat → Nat}
def tNote (T : tT) (w : Int32) : tT := tp (tset T 35 (upd (T.2 35) (tN T 38 % 32) w)) 38 (nI (tN T 38 + 1))
theorem note_eq (h1 : T.1 38 = nI (tN T 38)) (h2 : tN T 38 < 2 ^ 31) (a b : Int32) : jt_Mo_note T a b = some (tNote T ((64 : Int32) * a + b), ()) := by
  unfold jt_Mo_note
  have h1' : tf T 38 = nI (tN T 38) := h1
  have e : tf T 38 - tf T 38 / 32 * 32 = nI (tN T 38 % 32) := by
    rw [h1']; exact pk_rem (d := 32) (by omega) (by decide) (by decide)
  rw [e, tw_n (Nat.mod_lt _ (by decide)) (by decide), Option.bind_some, tset_f, h1', nI_1]
  rfl
theorem hI_rest (hDD : hD x ab T) (hKK : hK x ab v rp T) (hCC : hC x ab v sg T) (hBB : hB x ab T) (U : ∀ c a, 6 ≤ c → c ≤ 10 → un x y c a) (hai : ∀ t a, t = 2 ∨ t = 4 → q_ai y t a = q_ai x t a) : hD y ab T ∧ hK y ab v rp T ∧ hC y ab v sg T ∧ hB y ab T :=
  ⟨fun i hi => ⟨(hDD i hi).1.fr (U 6 _ (by decide) (by decide)), fun k hk => ((hDD i hi).2 k hk).fr (U 7 _ (by decide) (by decide))⟩, ⟨fun j hj => (hKK.1 j hj).fr (U 8 _ (by decide) (by decide)), hKK.2⟩, ⟨fun c hc => ⟨(hCC.1 c hc).1.fr (U 9 _ (by decide) (by decide)), by rw [hai 2 _ (Or.inl rfl)]; exact (hCC.1 c hc).2⟩, hCC.2⟩, ⟨fun b hb => ⟨(hBB.1 b hb).1.fr (U 10 _ (by decide) (by decide)), by rw [hai 4 _ (Or.inr rfl)]; exact (hBB.1 b hb).2⟩, hBB.2⟩⟩
def wO (x : q_S) (A : Nat → Nat) (ab : Nat → Nat → Nat) (L : Nat → Option (List Nat)) (O : List Nat) (v sg : Nat → Nat → Int32) (rp : Nat → Nat) (T : tT) (o : Option (q_S × Unit)) : Prop := ∃ y, o = some (y, ()) ∧ hI y A ab L O v sg rp T ∧ cFr x y ∧ q_sz y = q_sz x ∧ q_sl y = q_sl x
set_option maxHeartbeats 1000000 in
theorem write_eq (hh : hI x A ab L O v sg rp T) (h1 : T.1 38 = nI (tN T 38)) (h2 : tN T 38 < 2 ^ 31) (a b : Int32) : ∃ y, jf_Jo_write x (A 3) a b = some (y, ()) ∧ hI y A ab L O v sg rp (tNote T ((64 : Int32) * a + b)) ∧ cFr x y ∧ q_sz y = q_sz x ∧ q_sl y = q_sl x ∧ q_ai y 4 = q_ai x 4 ∧ (∀ c a, c ≠ 3 → un x y c a) := by
  obtain ⟨⟨kn, hS, hR⟩, ⟨hJ, hw, l2, l7, l9, l10, l11, ln, li⟩, hDD, hKK, hCC, hBB⟩ := hh
  have hS0 := hS
  obtain ⟨-, -, ⟨j1, j2, j3⟩, -, -, -, r1⟩ := hS0
  have e : T.1 38 - T.1 38 / 32 * 32 = nI (tN T 38 % 32) := by
    rw [h1]; exact pk_rem (d := 32) (by omega) (by decide) (by decide)
  have hm : tN T 38 % 32 < 32 := Nat.mod_lt _ (by decide)
  unfold jf_Jo_write
  rw [y_gRs j1 j2, Option.bind_some, y_gI j1 j3, Option.bind_some, e, y_sI r1 hm (by decide), Option.bind_some]
  have u1 := uI_of x 3 (A 8) 32 (upd (T.2 35) (tN T 38 % 32) ((64 : Int32) * a + b))
  generalize q_putI x 3 (A 8) 32 (upd (T.2 35) (tN T 38 % 32) ((64 : Int32) * a + b)) = x1 at u1 ⊢
  have a1 : q_al x1 3 (A 3) = true := by rw [u1.2.2.1]; exact j1
  have f1 : q_fd x1 3 1 (A 3) = .int (T.1 38) := by rw [u1.2.2.2.2.2.1]; exact j3
  rw [y_gI a1 f1, Option.bind_some, h1, nI_1, y_pI a1, Option.bind_some]
  have u2 := uF_of x1 3 1 (A 3) (.int (nI (tN T 38 + 1)))
  generalize q_putF x1 3 1 (A 3) (.int (nI (tN T 38 + 1))) = x2 at u2 ⊢
  have U : ∀ c a, c ≠ 3 → un x x2 c a := fun c a hc => (un_uI u1).tr (un_uF u2 (fun z => hc z.1))
  have ai : ∀ t a, ¬ (t = 3 ∧ a = A 8) → q_ai x2 t a = q_ai x t a := fun t a h => by rw [u2.2.2.2.1, u1.2.2.2.2.2.2, if_neg h]
  have R := hI_rest hDD hKK hCC hBB (y := x2) (fun c a h6 _ => U c a (by omega)) (fun t a h => ai t a (fun z => by omega))
  refine ⟨x2, rfl, ⟨⟨kn, ?_, hR⟩, ⟨jL_uF (jL_uI hJ u1) u2 (by decide), wf_uF (wf_uI hw u1 (by rw [r1]; exact fun h => nomatch h)) u2, l2, l7, l9, l10, l11, ln, li⟩, R.1, R.2.1, R.2.2.1, R.2.2.2⟩, (cFr_uI u1 (by decide)).tr (cFr_uF u2 (by decide)), by rw [u2.1, u1.1], by rw [u2.2.1, u1.2.1], funext (fun a => ai 4 a (fun z => by omega)), U⟩
  have w0 := U 0 (A 0) (by decide)
  have w1 := U 1 (A 1) (by decide)
  have w4 := U 4 (A 4) (by decide)
  have w5 := U 5 (A 5) (by decide)
  have d0 : q_fd x2 3 0 (A 3) = q_fd x 3 0 (A 3) := by rw [u2.2.2.2.2.2.2, if_neg (fun z => by cases z.2.1), u1.2.2.2.2.2.1]
  have d1 : q_fd x2 3 1 (A 3) = .int (nI (tN T 38 + 1)) := by rw [u2.2.2.2.2.2.2, if_pos ⟨rfl, rfl, rfl⟩]
  have i1 : q_ai x2 1 (A 6) = q_ai x 1 (A 6) := ai _ _ (fun z => by cases z.1)
  have i3 : q_ai x2 3 (A 8) = some (32, upd (T.2 35) (tN T 38 % 32) ((64 : Int32) * a + b)) := by rw [u2.2.2.2.1, u1.2.2.2.2.2.2, if_pos ⟨rfl, rfl⟩]
  show cS x2 A (T.1 22) (T.1 0) (nI (tN T 38 + 1)) kn (upd (T.2 35) (tN T 38 % 32) ((64 : Int32) * a + b))
  unfold cS at hS ⊢
  rw [w0.2, w0.2, w0.2, w0.2, w0.2, w0.2, w1.2, w1.2, w4.2, w4.2, w4.2, w5.2, w5.2, w5.2, w5.2, w5.2, d0, d1, i1, i3]
  obtain ⟨⟨a0, r0⟩, ⟨a1', r1'⟩, ⟨a3, r3, -⟩, ⟨a4, r4⟩, ⟨a5, r5⟩, r6, -⟩ := hS
  exact ⟨⟨w0.1 a0, r0⟩, ⟨w1.1 a1', r1'⟩, ⟨by rw [u2.2.2.1]; exact a1, r3, rfl⟩, ⟨w4.1 a4, r4⟩, ⟨w5.1 a5, r5⟩, r6, rfl⟩
theorem pI_note {w : Int32} (hp : pI T E O v sg rp) (hE : E + 1 ≤ 1000000000) : pI (tNote T w) (E + 1) O v sg rp := by
  obtain ⟨⟨h1, h2, h3, h4, h5, h6, h7, h8, h9⟩, hd, hk, hb, hx, he, hr⟩ := hp
  have e : (nI (tN T 38 + 1)).toNatClampNeg = tN T 38 + 1 := nI_clamp (by omega)
  exact ⟨⟨h1, h2, h3, h4, h5, ⟨h6.1, Nat.le_succ_of_le h6.2⟩, ⟨show nI (tN T 38 + 1) = nI (nI (tN T 38 + 1)).toNatClampNeg by rw [e], show (nI (tN T 38 + 1)).toNatClampNeg ≤ E + 1 by rw [e]; omega⟩, h8, hE⟩, hd, hk, hb, hx, he, hr⟩
theorem cont_eq (x : q_S) (u : Int32) (d : Nat) : (hs u d ∧ jf_Bc_contains x u (nI d) = some (x, 1)) ∨ (¬ hs u d ∧ jf_Bc_contains x u (nI d) = some (x, 0)) := by
  unfold jf_Bc_contains
  by_cases h : hs u d
  · exact Or.inl ⟨h, if_neg h⟩
  · exact Or.inr ⟨h, if_pos (Classical.byContradiction h)⟩
theorem mck_eq (hC : cI T E) (hx : xI T rp) {c d : Nat} (hc : c < tN T 16) (hd : d < 32) : (hs (T.2 19 (tV T 22 c)) d ∧ jt_Mo_isMocked T (nI c) (nI d) = some (T, 1)) ∨ (¬ hs (T.2 19 (tV T 22 c)) d ∧ jt_Mo_isMocked T (nI c) (nI d) = some (T, 0)) := by
  have h30 := hC.2.2.1.2
  have h8 := hC.2.1.2
  obtain ⟨⟨q1, q2, -⟩, -⟩ := hx.1 c hc
  unfold jt_Mo_isMocked
  rw [tl_n (by omega) (by decide), Option.bind_some, q1, tl_n (by omega) (by decide), Option.bind_some]
  by_cases h : hs (T.2 19 (tV T 22 c)) d
  · exact Or.inl ⟨h, if_pos ((hs_shr hd).mpr h)⟩
  · exact Or.inr ⟨h, if_neg (fun z => h ((hs_shr hd).mp z))⟩
theorem isin_eq (hC : cI T E) (hx : xI T rp) {c d : Nat} (hc : c < tN T 16) (hd : d < 32) : (hs (T.2 18 (tV T 22 c)) d ∧ jt_Mo_isIn T (nI c) (nI d) = some (T, 1)) ∨ (¬ hs (T.2 18 (tV T 22 c)) d ∧ jt_Mo_isIn T (nI c) (nI d) = some (T, 0)) := by
  have h30 := hC.2.2.1.2
  have h8 := hC.2.1.2
  obtain ⟨⟨q1, q2, -⟩, -⟩ := hx.1 c hc
  unfold jt_Mo_isIn
  rw [tl_n (by omega) (by decide), Option.bind_some, q1, tl_n (by omega) (by decide), Option.bind_some]
  by_cases h : hs (T.2 18 (tV T 22 c)) d
  · exact Or.inl ⟨h, if_pos ((hs_shr hd).mpr h)⟩
  · exact Or.inr ⟨h, if_neg (fun z => h ((hs_shr hd).mp z))⟩
theorem many_eq (hC : cI T E) (hx : xI T rp) (hB : bI T v) {c d : Nat} (hc : c < tN T 16) (hd : d < tN T 2) (hin : hs (T.2 18 (tV T 22 c)) d) : (hs (v 2 (tV T 22 c)) d ∧ jt_Mo_many T (nI c) (nI d) = some (T, 0)) ∨ (¬ hs (v 2 (tV T 22 c)) d ∧ jt_Mo_many T (nI c) (nI d) = some (T, 1)) := by
  have h10 := hC.1.2
  obtain ⟨⟨q1, q2, -⟩, -⟩ := hx.1 c hc
  have hb := (hB.1 _ q2).2.2.1 d (by omega)
  unfold jt_Mo_many
  rw [tl_n (by omega) (by decide), Option.bind_some]
  by_cases h4 : T.2 11 d &&& 4 = 0
  · exact Or.inl ⟨hb.mpr (Or.inr ⟨hin, h4⟩), if_pos h4⟩
  · rw [if_neg h4]
    rcases mck_eq hC hx hc (d := d) (by omega) with ⟨m1, m2⟩ | ⟨m1, m2⟩
    · rw [m2]; exact Or.inl ⟨hb.mpr (Or.inl m1), (if_neg i10 : (if (1 : Int32) = 0 then some (T, (1 : Int32)) else some (T, 0)) = some (T, 0))⟩
    · rw [m2]; exact Or.inr ⟨(fun z => (hb.mp z).elim m1 (fun w => h4 w.2)), (if_pos i00 : (if (0 : Int32) = 0 then some (T, (1 : Int32)) else some (T, 0)) = some (T, 1))⟩
theorem pI.mono {F : Nat} (h : pI T E O v sg rp) (hF : E ≤ F) (hF2 : F ≤ 1000000000) : pI T F O v sg rp := ⟨h.1.mono hF hF2, h.2⟩
end NT
