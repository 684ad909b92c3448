/-! call -/
section CL
variable {x : q_S} {A : Nat → Nat} {T : tT} {E : Nat} {ab : Nat → Nat → Nat} {L : Nat → Option (List Nat)} {O : List Nat} {v sg : Nat → Nat → Int32} {rp : Nat → Nat}
theorem ans_L (hh : hI x A ab L O v sg rp T) (hp : pI T E O v sg rp) (hq : qI T v) : ∀ (f b m n k : Nat) (s p : Int32), b < f → f ≤ m → f ≤ n → b < tN T 23 → b + k ≤ 199 → ∃ y T' r, jf_Wo_answerOf_L11 m x (A 4) (some (ab 10 b)) s p (nI k) = some (y, r) ∧ jt_Mo_call_L23 n T (nI b) p s (nI k) = some (T', r.toInt64) ∧ cFr x y ∧ hI y A ab L O v sg rp T' ∧ pI T' E O v sg rp ∧ qI T' v ∧ q_sz y = q_sz x ∧ q_sl y = q_sl x ∧ tN T' 23 = tN T 23 := by
  intro f
  induction f with
  | zero => intro b m n k s p h; omega
  | succ f ih =>
    intro b m n k s p hf hm hn hb hk
    obtain ⟨m, rfl⟩ : ∃ m', m = m' + 1 := ⟨m - 1, by omega⟩
    obtain ⟨n, rfl⟩ : ∃ n', n = n' + 1 := ⟨n - 1, by omega⟩
    have hh0 := hh
    have hp0 := hp
    obtain ⟨⟨kn, ⟨-, -, -, ⟨w1, w2, w3, w4⟩, -⟩, -⟩, ⟨hJ, hw, l2, l7, l9, -⟩, -, -, -, hBB⟩ := hh
    obtain ⟨i9, -, hl⟩ := hJ.1 _ _ l9
    obtain ⟨⟨o1, o2, o3, o4, o5, o6, o7, o8⟩, w, ow, ov⟩ := hBB.1 b hb
    have h200 := hp.1.2.2.2.1.2
    have h3 := wl_3 hp hb
    obtain ⟨-, -, hmk, -, -, -, hg⟩ := hp.2.2.2.2.2.1.1 b hb
    obtain ⟨g1, g2, g3⟩ := hg 0 (by decide)
    show ∃ y T' r, jf_Wo_answerOf_B11 (jf_Wo_answerOf_L11 m) x (A 4) (some (ab 10 b)) s p (nI k) = some (y, r) ∧ jt_Mo_call_B23 (jt_Mo_call_L23 n) T (nI b) p s (nI k) = some (T', r.toInt64) ∧ _
    unfold jf_Wo_answerOf_B11 jt_Mo_call_B23
    have e3 : (3 : Int32) * nI b = nI (3 * b + 0) := (Int32.ofNat_mul 3 b).symm
    rw [if_neg (show ¬ (200 : Int32) ≤ nI k from nI_ge (a := k) (b := 200) (by omega) (by omega)), if_neg (show ¬ (301 : Int32) ≤ nI k from nI_ge (a := k) (b := 301) (by omega) (by omega)), y_gRs o1 o5, Option.bind_some, y_len ow, Option.bind_some, tl_n (t := 102) (by omega) (by decide), Option.bind_some]
    by_cases hz : wl T b = 0
    · rw [hz, if_pos (by decide), y_gI o1 o4, Option.bind_some]
      by_cases hm0 : T.2 102 b = 0
      · rw [if_pos hm0, if_pos hm0, y_gI o1 o2, Option.bind_some, tl_n (t := 26) (by omega) (by decide), Option.bind_some, e3, tl_n (t := 27) (by omega) (by decide), Option.bind_some, g1, g3.mpr (by omega), if_neg (show ¬ (0 : Int32) ≤ oI none by decide)]
        exact ⟨x, T, _, rfl, by rw [Int32.add_assoc], cFr.rf x, hh0, hp0, hq, rfl, rfl, rfl⟩
      · rw [if_neg hm0, if_neg hm0, y_av o1, Option.bind_some, tl_n (t := 29) (by omega) (by decide), Option.bind_some, tw_n (t := 29) (by omega) (by decide), Option.bind_some, tw_n (t := 30) (by omega) (by decide), Option.bind_some, tl_n (t := 28) (by omega) (by decide), Option.bind_some]
        unfold jf_Be_note
        rw [y_gI o1 o7]
        rw [Option.bind_some, y_pI o1, Option.bind_some]
        have u1 := uF_of x 10 5 (ab 10 b) (.int (T.2 29 b + 1))
        generalize q_putF x 10 5 (ab 10 b) (.int (T.2 29 b + 1)) = x1 at u1 ⊢
        have a1 : q_al x1 10 (ab 10 b) = true := by rw [u1.2.2.1]; exact o1
        rw [y_pI a1, Option.bind_some]
        have u2 := uF_of x1 10 6 (ab 10 b) (.int p)
        generalize q_putF x1 10 6 (ab 10 b) (.int p) = x2 at u2 ⊢
        have a2 : q_al x2 10 (ab 10 b) = true := by rw [u2.2.2.1]; exact a1
        have f4 : q_fd x2 10 4 (ab 10 b) = .int (T.2 28 b) := by rw [u2.2.2.2.2.2.2, if_neg (fun z => by cases z.2.1), u1.2.2.2.2.2.2, if_neg (fun z => by cases z.2.1)]; exact o6
        rw [y_gI a2 f4, Option.bind_some, Option.bind_some]
        have H1 := hI_29 hh0 hb u1
        have H2 := hI_30 (T := tset T 29 (upd (T.2 29) b (T.2 29 b + 1))) H1 hb u2
        have P2 := pI_30 (b := b) (w := p) (pI_29 (b := b) (w := T.2 29 b + 1) hp0 hb) hb
        exact ⟨x2, _, _, rfl, rfl, (cFr_uF u1 (by decide)).tr (cFr_uF u2 (by decide)), H2, P2, qI_set (qI_set hq (by decide)) (by decide), by rw [u2.1, u1.1], by rw [u2.2.1, u1.2.1], rfl⟩
    · have hm0 : T.2 102 b = 0 := Classical.byContradiction (fun z => hz (by unfold wl; rw [if_neg z]))
      obtain ⟨g, hgs⟩ : ∃ g, tO T 27 (3 * b + 0) = some g := by
        cases ho : tO T 27 (3 * b + 0) with
        | none => exact absurd (g3.mp ho) (by omega)
        | some g => exact ⟨g, rfl⟩
      have hgb := g2 g hgs
      have ev : T.2 27 (3 * b + 0) = nI g := by rw [g1, hgs]; rfl
      rw [if_neg (nI_nle (by omega) (by omega)), if_pos hm0, y_gI o1 o2, Option.bind_some, y_gRs w1 w4, Option.bind_some, Option.bind_some, show q_lI x 4 (some (ab 13 b)) 0 = some (w 0) from y_lI (i := 0) ow (by omega) (by omega), Option.bind_some, ov 0 (by omega), ev, y_av i9.1, Option.bind_some, L_get i9 hl (by rw [ls_len]; omega), ls_get (by omega), Option.bind_some, tl_n (t := 26) (by omega) (by decide), Option.bind_some, e3, tl_n (t := 27) (by omega) (by decide), Option.bind_some, Option.bind_some, ev, if_pos (nI_pos' (by omega)), nI_1]
      dsimp only
      obtain ⟨⟨q1, -⟩, -⟩ := hBB.1 g (by omega)
      rw [y_ck q1, Option.bind_some]
      exact ih g m n (k + 1) _ _ (by omega) (by omega) (by omega) (by omega) (by omega)
theorem g_call (h : gI x A T E) (hE : E + 100000 ≤ 1000000000) (a c : Int32) : gO' A x T E (jf_Bc_call x (A 0) a c) (jt_Mo_call T a c) := by
  have h0 := h
  obtain ⟨ab, L, O, v, sg, rp, hh, hp, hq⟩ := h
  have hh0 := hh
  have hl := g_live hh hp hq a
  obtain ⟨⟨kn, ⟨⟨b1, b2, b3, b4, b5, b6, b7⟩, -, -, ⟨w1, -⟩, -⟩, -⟩, -⟩ := hh
  have hn := hp.1.2.2.2.1.2
  unfold jf_Bc_call jt_Mo_call
  rw [y_gRs b1 b5, Option.bind_some, y_av w1, Option.bind_some]
  rcases hl with ⟨e1, e2⟩ | ⟨b, hb, rfl, e1, e2⟩
  · rw [e1, e2]; exact gO_rd (r := 4294967296) h0 hE rfl rfl
  · rw [e1, e2, Option.bind_some, Option.bind_some]
    dsimp only
    rw [if_neg (fun z => by cases z), if_neg (by decide), y_gRs b1 b5, Option.bind_some, y_av w1, Option.bind_some]
    obtain ⟨y, T', r, q1, q2, q3, q4, q5, q6, q7, q8, q9⟩ := ans_L hh0 hp hq 300 b lpK lpK 0 0 c (by omega) (by decide) (by decide) hb (by omega)
    unfold jf_Wo_answerOf
    rw [show jf_Wo_answerOf_L11 lpK x (A 4) (some (ab 10 b)) 0 c 0 = some (y, r) from q1, show jt_Mo_call_L23 lpK T (nI b) c 0 0 = some (T', r.toInt64) from q2, Option.bind_some]
    exact ⟨y, T', _, rfl, rfl, q3, gI.mono (E := E) ⟨ab, L, O, v, sg, rp, q4, q5, q6⟩ (by omega) hE, by omega, by omega⟩
end CL
