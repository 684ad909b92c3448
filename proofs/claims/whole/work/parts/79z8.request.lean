section RR
variable {x y : q_S} {A : Nat → Nat} {T : tT} {E : Nat}
set_option maxHeartbeats 2000000 in
theorem g_request (h : gI x A T E) (hE : E + 100000 ≤ 1000000000) (a : Int32) : gO' A x T E (jf_Bc_request x (A 0) a) (jt_Mo_request T a) := by
  have h0 := h
  have hC := g_isConf h a
  obtain ⟨ab, L, O, v, sg, rp, hh, hp, hq⟩ := h
  have hh0 := hh
  have h8 := hp.1.2.1.2
  have h200 := hp.1.2.2.2.1.2
  have hk := hp.2.2.1
  obtain ⟨⟨kn, ⟨⟨b1, b2, b3, b4, b5, b6, b7⟩, -, -, -, ⟨s1, -⟩, -⟩, hR⟩, ⟨hJ, hw, l2, -⟩, -, hKK, -⟩ := hh
  obtain ⟨i2, -, hl2⟩ := hJ.1 _ _ l2
  unfold jf_Bc_request jt_Mo_request
  rw [y_gI b1 b7, Option.bind_some, show tf T 22 = T.1 22 from rfl]
  by_cases hd : T.1 22 = 0
  · rw [if_pos hd, if_pos hd, y_av b1, Option.bind_some, hC.1, Option.bind_some, hC.2, Option.bind_some]
    dsimp only
    by_cases hb : blw a (nI (tN T 11)) = 0
    · rw [if_pos hb, if_pos hb]; exact gO_rd (r := -1) h0 hE rfl rfl
    · obtain ⟨j, hj, rfl⟩ := blw_n (by omega) hb
      have oj := (hKK.1 j hj).1
      have k4 := hk.2.2.2.2.1 j hj
      have hrj : rp j < tN T 11 := by omega
      have e8 : ab 8 j = ab 8 (rp j) := (hKK.2 j (rp j) hj hrj).mpr k4.2.symm
      have HP : hP x A ab L O v sg rp T E none := ⟨hh0, hp, qF_of hq⟩
      obtain ⟨y, rr, T', ab', L', O', v', sg', E', p1, ⟨mL, hmL, p2⟩, p3, p4, p5, p6, p7, p8, p9, p10, p11⟩ := ob_L (K0 := rp j) 3 (rp j) 0 6 lpK x T ab L O v sg E HP (kd_3 hk hrj k4.2) rfl (by omega) (by omega) (by decide) (by omega)
      have m200 := p3.2.1.1.2.2.2.1.2
      have tE : jt_Mo_obtain T (nI (rp j)) = some (T', rr) := by
        unfold jt_Mo_obtain
        refine p2.trans ?_
        by_cases hr : 0 ≤ rr
        · rw [if_pos hr]
          obtain ⟨mL, rfl⟩ : ∃ m', mL = m' + 1 := ⟨mL - 1, by omega⟩
          show jt_Mo_obtain_B120 (jt_Mo_obtain_L120 mL) T' (nI (rp j)) rr (nI 0 - 1) = _
          unfold jt_Mo_obtain_B120
          rw [if_pos (show nI 0 - 1 < 0 by decide)]
        · rw [if_neg hr]
      rw [if_neg hb, if_neg hb, y_gRs b1 b6, Option.bind_some, y_gRs b1 b3, Option.bind_some, y_av i2.1, Option.bind_some, L_get i2 hl2 (by rw [ls_len]; exact hj), ls_get hj, Option.bind_some, key_eq hk hp.1.2.1.1 hj, Option.bind_some]
      dsimp only
      rw [y_ck oj, Option.bind_some, y_av s1, Option.bind_some, e8, p1, Option.bind_some, tE, Option.bind_some]
      exact ⟨y, T', rr, rfl, rfl, p7, gI.mono (E := E') ⟨ab', L', O', v', sg', rp, p3.1, p3.2.1, qF_to p3.2.2⟩ (by omega) hE, by omega, by omega⟩
  · rw [if_neg hd, if_neg hd]; exact gO_rd (r := -1) h0 hE rfl rfl
end RR
