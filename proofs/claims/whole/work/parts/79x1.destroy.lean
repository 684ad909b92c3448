/-! The beans of a context are destroyed. -/
section DS
variable {x y : q_S} {A : Nat → Nat} {T : tT} {E : Nat} {ab : Nat → Nat → Nat} {L : Nat → Option (List Nat)} {O : List Nat} {v sg : Nat → Nat → Int32} {rp : Nat → Nat}
/-- as before but for the journal and what is gone -/
def tA (T T' : tT) : Prop := (∀ k, k ≠ 38 → T'.1 k = T.1 k) ∧ ∀ t, t ≠ 35 → t ≠ 103 → T'.2 t = T.2 t
theorem tA.rf (T : tT) : tA T T := ⟨fun _ _ => rfl, fun _ _ _ => rfl⟩
theorem tA.tr {T T' T'' : tT} (h : tA T T') (g : tA T' T'') : tA T T'' := ⟨fun k hk => (g.1 k hk).trans (h.1 k hk), fun t h1 h2 => (g.2 t h1 h2).trans (h.2 t h1 h2)⟩
theorem tA_note {w : Int32} (T : tT) : tA T (tNote T w) := ⟨fun k hk => if_neg hk, fun t h1 _ => if_neg h1⟩
theorem tA_set {g : Nat → Int32} (T : tT) : tA T (tset T 103 g) := ⟨fun _ _ => rfl, fun t _ h2 => if_neg h2⟩
theorem nI_dec (i : Nat) : nI i + (-1) = nI i - 1 := (Int32.sub_eq_add_neg _ _).symm
set_option maxHeartbeats 1000000 in
theorem pI_gone {c : Nat} {g0 : Nat → Int32} (hp : pI (tset T 103 g0) E O v sg rp) (hg : ∀ b, T.2 103 b = if 0 ≤ b ∧ b < tN T 23 ∧ tV T 25 b = c then 1 else g0 b) : pI T E O (upv v 1 c 1) sg rp := by
  obtain ⟨hc, hd, hk, hb, hx, ⟨he1, he2, he3⟩, hr⟩ := hp
  refine ⟨hc, hd, hk, hb, hx, ⟨fun b hb' => ?_, fun b hb' => ?_, he3⟩, hr⟩
  · obtain ⟨q1, q2, q3, q4, q5⟩ := he1 b hb'
    have q4 : g0 b = v 1 (tV T 25 b) := q4
    refine ⟨q1, q2, q3, ?_, q5⟩
    rw [hg]
    by_cases e : tV T 25 b = c
    · rw [if_pos ⟨Nat.zero_le _, hb', e⟩, e, upv_s]
    · rw [if_neg (fun z => e z.2.2), upv_n (fun z => e z.2)]; exact q4
  · obtain ⟨q1, q2, q3, q4⟩ := he2 b hb'
    have hb' : tN T 23 ≤ b := hb'
    refine ⟨q1, q2, q3, ?_⟩
    rw [hg, if_neg (fun z => by omega)]; exact q4
set_option maxHeartbeats 4000000 in
theorem dst_L {c : Nat} {g0 : Nat → Int32} : ∀ (m i : Nat) (x : q_S) (T : tT) (E : Nat), i < m → i ≤ tN T 23 → hI x A ab L O v sg rp T → pI (tset T 103 g0) E O v sg rp → E + i ≤ 1000000000 → c < tN T 16 → v 1 c = 0 → (∀ b, T.2 103 b = if i ≤ b ∧ b < tN T 23 ∧ tV T 25 b = c then 1 else g0 b) → ∃ y T', jf_Wo_destroyBeans_L10 m x (A 4) (some (ab 9 c)) (nI i - 1) = some (y, ()) ∧ jt_Mo_destroy_L7 m T (nI c) (nI i - 1) = some (T', ()) ∧ hI y A ab L O (upv v 1 c 1) sg rp T' ∧ pI T' (E + i) O (upv v 1 c 1) sg rp ∧ tA T T' ∧ cFr x y ∧ q_sz y = q_sz x ∧ q_sl y = q_sl x := by
  intro m
  induction m with
  | zero => intro i x T E h; omega
  | succ m ih =>
    intro i x T E hm hi hh hp hE hc hv hg
    have hh0 := hh
    have hp0 := hp
    obtain ⟨⟨kn, ⟨-, -, ⟨j1, -⟩, ⟨w1, w2, w3, w4⟩, -⟩, hR⟩, ⟨hJ, hw, l2, l7, l9, -⟩, -, hKK, hCC, hBB⟩ := hh
    obtain ⟨hC, hD, hk, hB, hx, he, hr⟩ := hp
    have hC : cI T E := hC
    have hx : xI T rp := hx
    have hB : bI T v := hB
    have e38 := hC.2.2.2.2.2.2.1
    have hEE := hC.2.2.2.2.2.2.2.2
    have h200 := hC.2.2.2.1.2
    have h30 := hC.2.2.1.2
    obtain ⟨i9, -, hl⟩ := hJ.1 _ _ l9
    obtain ⟨⟨g1, g2, g3, -⟩, -⟩ := hCC.1 c hc
    show ∃ y T', jf_Wo_destroyBeans_B10 (jf_Wo_destroyBeans_L10 m) x (A 4) (some (ab 9 c)) (nI i - 1) = some (y, ()) ∧ jt_Mo_destroy_B7 (jt_Mo_destroy_L7 m) T (nI c) (nI i - 1) = some (T', ()) ∧ _
    unfold jf_Wo_destroyBeans_B10 jt_Mo_destroy_B7
    cases i with
    | zero =>
      rw [if_pos (by decide), if_pos (by decide), y_pZ g1 (Or.inr rfl), Option.bind_some]
      have u := uF_of x 9 6 (ab 9 c) (.int 1)
      generalize q_putF x 9 6 (ab 9 c) (.int 1) = y at u ⊢
      exact ⟨y, T, rfl, rfl, hI_gone hh0 hc u, (pI_gone hp0 hg).mono (Nat.le_add_right _ _) (by omega), tA.rf T, cFr_uF u (by decide), u.1, u.2.1⟩
    | succ i =>
      have hb : i < tN T 23 := by omega
      obtain ⟨⟨o1, o2, o3, -⟩, -⟩ := hBB.1 i hb
      obtain ⟨⟨q1, q2⟩, ⟨q3, q4⟩, -, q5, q6, -⟩ := he.1 i hb
      have q1 : T.2 25 i = nI (tV T 25 i) := q1
      have q2 : tV T 25 i < tN T 16 := q2
      have q3 : T.2 26 i = nI (tV T 26 i) := q3
      have q4 : tV T 26 i < tN T 2 := q4
      have q5 : g0 i = v 1 (tV T 25 i) := q5
      have q6 : hs (T.2 18 (tV T 22 (tV T 25 i))) (tV T 26 i) := q6
      have ei : nI (i + 1) - 1 = nI i := nI_pred i
      rw [ei, if_neg (nI_pos (by omega)), if_neg (nI_pos (by omega)), y_gRs w1 w4, Option.bind_some, y_av i9.1, Option.bind_some, L_get i9 hl (by rw [ls_len]; exact hb), ls_get hb, Option.bind_some, tl_n (t := 25) (by omega) (by decide), Option.bind_some]
      dsimp only
      rw [y_ck o1, Option.bind_some, y_gRs o1 o3, Option.bind_some, nI_dec, q1]
      by_cases hhc : tV T 25 i = c
      · have z0 : T.2 103 i = 0 := by rw [hg, if_neg (fun z => by omega), q5, hhc, hv]
        have ky := (hx.1 c hc).1.2.1
        obtain ⟨k1, k2, k3, k4, k5, -⟩ := hKK.1 _ ky
        rw [hhc] at q6
        rw [hhc, if_pos rfl, if_pos rfl, tl_n (t := 103) (by omega) (by decide), Option.bind_some, if_pos z0, tw_n (t := 103) (by omega) (by decide), Option.bind_some, y_gRs g1 g3, Option.bind_some, y_gI k1 k5, Option.bind_some, y_gI o1 o2, Option.bind_some, q3]
        have hg5 : ∀ b, upd (T.2 103) i ((1 : Int32) &&& 1) b = if i ≤ b ∧ b < tN T 23 ∧ tV T 25 b = c then 1 else g0 b := fun b => by
          by_cases e : b = i
          · rw [e, upd_s, if_pos ⟨Nat.le_refl _, hb, hhc⟩]; decide
          · rw [upd_n e, hg]
            by_cases e2 : i + 1 ≤ b ∧ b < tN T 23 ∧ tV T 25 b = c
            · rw [if_pos e2, if_pos ⟨by omega, e2.2⟩]
            · rw [if_neg e2, if_neg (fun z => e2 ⟨by omega, z.2⟩)]
        have hh5 : hI x A ab L O v sg rp (tset T 103 (upd (T.2 103) i ((1 : Int32) &&& 1))) := hh0
        have hp5 : pI (tset (tset T 103 (upd (T.2 103) i ((1 : Int32) &&& 1))) 103 g0) E O v sg rp := by rw [tset_t]; exact hp0
        have A5 := tA_set (g := upd (T.2 103) i ((1 : Int32) &&& 1)) T
        have hC5 : cI (tset T 103 (upd (T.2 103) i ((1 : Int32) &&& 1))) E := hC
        have hx5 : xI (tset T 103 (upd (T.2 103) i ((1 : Int32) &&& 1))) rp := hx
        have hB5 : bI (tset T 103 (upd (T.2 103) i ((1 : Int32) &&& 1))) v := hB
        have t26 : (tset T 103 (upd (T.2 103) i ((1 : Int32) &&& 1))).2 26 i = nI (tV T 26 i) := q3
        have mn := many_eq hC5 hx5 hB5 (c := c) (d := tV T 26 i) hc q4 q6
        generalize hT5 : tset T 103 (upd (T.2 103) i ((1 : Int32) &&& 1)) = T5 at hh5 hp5 A5 hC5 hx5 hB5 t26 mn
        have k23 : tN T5 23 = tN T 23 := by show (T5.1 23).toNatClampNeg = _; rw [A5.1 23 (by decide)]
        have k16 : tN T5 16 = tN T 16 := by show (T5.1 16).toNatClampNeg = _; rw [A5.1 16 (by decide)]
        have k38 : tN T5 38 = tN T 38 := by rw [← hT5]; rfl
        have k25 : ∀ b, tV T5 25 b = tV T 25 b := fun b => by show (T5.2 25 b).toNatClampNeg = _; rw [A5.2 25 (by decide) (by decide)]
        have g5 : ∀ b, T5.2 103 b = if i ≤ b ∧ b < tN T5 23 ∧ tV T5 25 b = c then 1 else g0 b := fun b => by rw [k23, k25, ← hT5]; exact hg5 b
        have v22 : ∀ b, tV T5 22 b = tV T 22 b := fun b => by show (T5.2 22 b).toNatClampNeg = _; rw [A5.2 22 (by decide) (by decide)]
        rw [tl_n (t := 26) (by omega) (by decide), Option.bind_some, t26]
        rcases cont_eq x (v 2 (tV T 22 c)) (tV T 26 i) with ⟨c1, c2⟩ | ⟨c1, c2⟩
        · rcases mn with ⟨m1, m2⟩ | ⟨m1, m2⟩
          · rw [c2, Option.bind_some, m2, Option.bind_some]
            dsimp only
            rw [if_neg (by decide), if_pos rfl, y_gRs w1 w3, Option.bind_some, y_gI o1 o2, Option.bind_some, y_av j1, Option.bind_some, q3, tl_n (t := 26) (by omega) (by decide), Option.bind_some, t26, note_eq hC5.2.2.2.2.2.2.1.1 (by omega), Option.bind_some]
            obtain ⟨y1, f1, f2, f3, f4, f5, -⟩ := write_eq hh5 hC5.2.2.2.2.2.2.1.1 (by omega) 4 (nI (tV T 26 i))
            rw [f1, Option.bind_some]
            have P6 : pI (tset (tNote T5 ((64 : Int32) * 4 + nI (tV T 26 i))) 103 g0) (E + 1) O v sg rp := by
              obtain ⟨z1, z2, z3, z4, z5, z6, z7⟩ := pI_note (w := (64 : Int32) * 4 + nI (tV T 26 i)) hp5 (by omega)
              exact ⟨z1, z2, z3, z4, z5, z6, z7⟩
            have A6 := tA_note (w := (64 : Int32) * 4 + nI (tV T 26 i)) T5
            have g6 : ∀ b, (tNote T5 ((64 : Int32) * 4 + nI (tV T 26 i))).2 103 b = if i ≤ b ∧ b < tN (tNote T5 ((64 : Int32) * 4 + nI (tV T 26 i))) 23 ∧ tV (tNote T5 ((64 : Int32) * 4 + nI (tV T 26 i))) 25 b = c then 1 else g0 b := g5
            have h16 : c < tN (tNote T5 ((64 : Int32) * 4 + nI (tV T 26 i))) 16 := by show c < tN T5 16; omega
            have h23 : i ≤ tN (tNote T5 ((64 : Int32) * 4 + nI (tV T 26 i))) 23 := by show i ≤ tN T5 23; omega
            obtain ⟨y, T', r1, r2, r3, r4, r5, r6, r7, r8⟩ := ih i y1 _ (E + 1) (by omega) h23 f2 P6 (by omega) h16 hv g6
            exact ⟨y, T', r1, r2, r3, by rw [show E + (i + 1) = E + 1 + i by omega]; exact r4, (A5.tr A6).tr r5, f3.tr r6, by omega, by omega⟩
          · exact absurd (by rw [v22] at m1; exact m1 c1) (fun z => z)
        · rcases mn with ⟨m1, m2⟩ | ⟨m1, m2⟩
          · exact absurd (by rw [v22] at m1; exact c1 m1) (fun z => z)
          · rw [c2, Option.bind_some, m2, Option.bind_some]
            dsimp only
            rw [if_pos rfl, if_neg (by decide)]
            obtain ⟨y, T', r1, r2, r3, r4, r5, r6, r7, r8⟩ := ih i x T5 E (by omega) (by omega) hh5 hp5 (by omega) (by omega) hv g5
            exact ⟨y, T', r1, r2, r3, r4.mono (by omega) (by omega), A5.tr r5, r6, r7, r8⟩
      · rw [if_neg (c := some (ab 9 (tV T 25 i)) = some (ab 9 c)) (fun z => hhc ((hCC.2 _ c q2 hc).1 (Option.some.inj z))), if_neg (c := nI (tV T 25 i) = nI c) (fun z => hhc ((nI_eq (by omega) (by omega)).mp z))]
        obtain ⟨y, T', r1, r2, r3, r4, r5, r6, r7, r8⟩ := ih i x T E (by omega) (by omega) hh0 hp0 (by omega) hc hv (fun b => by
          rw [hg]
          by_cases e2 : i + 1 ≤ b ∧ b < tN T 23 ∧ tV T 25 b = c
          · rw [if_pos e2, if_pos ⟨by omega, e2.2⟩]
          · rw [if_neg e2, if_neg (fun z => e2 ⟨by
              by_cases e : b = i
              · rw [e] at z; exact absurd z.2.2 hhc
              · omega, z.2⟩)])
        exact ⟨y, T', r1, r2, r3, r4.mono (by omega) (by omega), r5, r6, r7, r8⟩
theorem dst_eq {c : Nat} (hh : hI x A ab L O v sg rp T) (hp : pI T E O v sg rp) (hE : E + 200 ≤ 1000000000) (hc : c < tN T 16) (hv : v 1 c = 0) : ∃ y T', jf_Wo_destroyBeans x (A 4) (some (ab 9 c)) = some (y, ()) ∧ jt_Mo_destroy T (nI c) = some (T', ()) ∧ hI y A ab L O (upv v 1 c 1) sg rp T' ∧ pI T' (E + 200) O (upv v 1 c 1) sg rp ∧ tA T T' ∧ cFr x y ∧ q_sz y = q_sz x ∧ q_sl y = q_sl x := by
  have h200 := hp.1.2.2.2.1.2
  have e23 : tf T 23 = nI (tN T 23) := hp.1.2.2.2.1.1
  have hh0 := hh
  obtain ⟨⟨kn, ⟨-, -, -, ⟨w1, w2, w3, w4⟩, -⟩, hR⟩, ⟨hJ, hw, l2, l7, l9, -⟩, -⟩ := hh
  have i9 := (hJ.1 _ _ l9).1
  have lS := L_size i9
  rw [ls_len] at lS
  obtain ⟨y, T', r1, r2, r3, r4, r5⟩ := dst_L (c := c) (g0 := T.2 103) lpK (tN T 23) x T E (by unfold lpK; omega) (Nat.le_refl _) hh0 (by rw [tset_s]; exact hp) (by omega) hc hv (fun b => by rw [if_neg (fun z => by omega)])
  unfold jf_Wo_destroyBeans jt_Mo_destroy
  rw [y_gRs w1 w4, Option.bind_some, y_av i9.1, Option.bind_some, lS, Option.bind_some, e23]
  exact ⟨y, T', r1, r2, r3, r4.mono (by omega) (by omega), r5⟩
end DS
