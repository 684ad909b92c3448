/-! What the reference's numbers keep. -/
def cI (T : tT) (E : Nat) : Prop := (T.1 2 = nI (tN T 2) ∧ tN T 2 ≤ 10) ∧ (T.1 11 = nI (tN T 11) ∧ tN T 11 ≤ 8) ∧ (T.1 16 = nI (tN T 16) ∧ tN T 16 ≤ 30) ∧ (T.1 23 = nI (tN T 23) ∧ tN T 23 ≤ 200) ∧ (T.1 0 = nI (tN T 0) ∧ 3 ≤ tN T 0 ∧ tN T 0 ≤ 6) ∧ (T.1 21 = nI (tN T 21) ∧ tN T 21 ≤ E) ∧ (T.1 38 = nI (tN T 38) ∧ tN T 38 ≤ E) ∧ (T.1 22 = 0 ∨ T.1 22 = 1) ∧ E ≤ 1000000000
def dI (T : tT) : Prop := (∀ i, i < tN T 2 → (T.2 10 i = nI (tV T 10 i) ∧ tV T 10 i < 6) ∧ (T.2 11 i = nI (tV T 11 i) ∧ tV T 11 i < 16) ∧ (T.2 12 i = nI (tV T 12 i) ∧ tV T 12 i < 4) ∧ (T.2 13 i = nI (tV T 13 i) ∧ tV T 13 i < 4) ∧ (T.2 14 i = nI (tV T 14 i) ∧ tV T 14 i ≤ 3) ∧ ∀ k, k < tV T 14 i → (T.2 15 (3 * i + k) = nI (tV T 15 (3 * i + k)) ∧ tV T 15 (3 * i + k) < 6) ∧ (T.2 16 (3 * i + k) = nI (tV T 16 (3 * i + k)) ∧ tV T 16 (3 * i + k) < 4) ∧ nam (T.2 17 (3 * i + k)) ≠ 0) ∧ ∀ i, tN T 2 ≤ i → T.2 14 i = 0
def bI (T : tT) (v : Nat → Nat → Int32) : Prop := (∀ j, j < tN T 11 → (∀ d, d < 32 → hs (T.2 18 j) d → d < tN T 2) ∧ (∀ d, d < 32 → hs (T.2 19 j) d → hs (T.2 18 j) d) ∧ (∀ d, d < 32 → (hs (v 2 j) d ↔ hs (T.2 19 j) d ∨ (hs (T.2 18 j) d ∧ T.2 11 d &&& 4 = 0))) ∧ (∀ d, d < 32 → (hs (v 3 j) d ↔ hs (T.2 19 j) d ∨ (hs (T.2 18 j) d ∧ T.2 11 d &&& 6 = 0)))) ∧ (∀ j, T.2 21 j = nI (tV T 21 j) ∧ tV T 21 j ≤ 2) ∧ ∀ j, tN T 11 ≤ j → T.2 21 j = 0
def xI (T : tT) (rp : Nat → Nat) : Prop := (∀ c, c < tN T 16 → (T.2 22 c = nI (tV T 22 c) ∧ tV T 22 c < tN T 11 ∧ rp (tV T 22 c) = tV T 22 c) ∧ (T.2 23 c = oI (tO T 23 c) ∧ ∀ u, tO T 23 c = some u → u < c ∧ (T.2 101 c = 1 → T.2 101 u = 1)) ∧ (tO T 23 c).map (tV T 22) = (tO T 20 (tV T 22 c)).map rp ∧ (T.2 101 c = 0 ∨ T.2 101 c = 1) ∧ (T.2 24 c = nI (tV T 24 c) ∧ tV T 24 c ≤ tN T 21)) ∧ ∀ c, tN T 16 ≤ c → T.2 101 c = 0 ∧ T.2 24 c = 0
def eI (T : tT) (v sg : Nat → Nat → Int32) : Prop := (∀ b, b < tN T 23 → (T.2 25 b = nI (tV T 25 b) ∧ tV T 25 b < tN T 16) ∧ (T.2 26 b = nI (tV T 26 b) ∧ tV T 26 b < tN T 2) ∧ (T.2 102 b = 0 ∨ T.2 102 b = 1) ∧ T.2 103 b = v 1 (tV T 25 b) ∧ hs (T.2 18 (tV T 22 (tV T 25 b))) (tV T 26 b) ∧ (T.2 102 b = 1 ↔ hs (T.2 19 (tV T 22 (tV T 25 b))) (tV T 26 b)) ∧ ∀ k, k < 3 → T.2 27 (3 * b + k) = oI (tO T 27 (3 * b + k)) ∧ (∀ g, tO T 27 (3 * b + k) = some g → g < b) ∧ (tO T 27 (3 * b + k) = none ↔ wl T b ≤ k)) ∧ (∀ b, tN T 23 ≤ b → T.2 28 b = 0 ∧ T.2 29 b = 0 ∧ T.2 30 b = 0 ∧ T.2 103 b = 0) ∧ ∀ c d, c < tN T 16 → d < 10 → hs (v 2 (tV T 22 c)) d → ∃ o, sg c d = oI o ∧ ∀ b, (o = some b ↔ b < tN T 23 ∧ tV T 25 b = c ∧ tV T 26 b = d)
def rI (T : tT) (O : List Nat) : Prop := (∀ c, c ∈ O ↔ c < tN T 16 ∧ T.2 101 c = 1) ∧ O.Pairwise (fun a b => tV T 24 b < tV T 24 a) ∧ O.length ≤ tN T 0 ∧ ∀ c d, c ∈ O → d ∈ O → tV T 22 c = tV T 22 d → c = d
/-- between two calls nothing is open, and what is not kept is gone -/
def qI (T : tT) (v : Nat → Nat → Int32) : Prop := ∀ c, c < tN T 16 → v 0 c = 0 ∧ v 1 c = if T.2 101 c = 1 then 0 else 1
def pI (T : tT) (E : Nat) (O : List Nat) (v sg : Nat → Nat → Int32) (rp : Nat → Nat) : Prop := cI T E ∧ dI T ∧ kI T rp (tN T 11) ∧ bI T v ∧ xI T rp ∧ eI T v sg ∧ rI T O
/-- all of it -/
def gI (x : q_S) (A : Nat → Nat) (T : tT) (E : Nat) : Prop := ∃ ab L O v sg rp, hI x A ab L O v sg rp T ∧ pI T E O v sg rp ∧ qI T v
/-- a call on both sides: same answer, all of it kept -/
def gO' {α : Type} (A : Nat → Nat) (x : q_S) (T : tT) (E : Nat) (o : Option (q_S × α)) (t : Option (tT × α)) : Prop := ∃ y T' r, o = some (y, r) ∧ t = some (T', r) ∧ cFr x y ∧ gI y A T' (E + 100000) ∧ q_sz y ≤ q_sz x + 1000 ∧ q_sl y + 2000 * tN T 23 ≤ q_sl x + 10000 + 2000 * tN T' 23
section GO
variable {α : Type} {x : q_S} {A : Nat → Nat} {T : tT} {E : Nat}
theorem cI.mono {F : Nat} (h : cI T E) (hF : E ≤ F) (hF2 : F ≤ 1000000000) : cI T F := by
  obtain ⟨h1, h2, h3, h4, h5, h6, h7, h8, h9⟩ := h
  exact ⟨h1, h2, h3, h4, h5, ⟨h6.1, by omega⟩, ⟨h7.1, by omega⟩, h8, hF2⟩
theorem gI.mono {F : Nat} (h : gI x A T E) (hF : E ≤ F) (hF2 : F ≤ 1000000000) : gI x A T F := by
  obtain ⟨ab, L, O, v, sg, rp, h1, h2, h3⟩ := h
  exact ⟨ab, L, O, v, sg, rp, h1, ⟨h2.1.mono hF hF2, h2.2⟩, h3⟩
theorem gO_rd {r : α} {o : Option (q_S × α)} {t : Option (tT × α)} (h : gI x A T E) (hE : E + 100000 ≤ 1000000000) (h1 : o = some (x, r)) (h2 : t = some (T, r)) : gO' A x T E o t := ⟨x, T, r, h1, h2, cFr.rf x, h.mono (by omega) hE, by omega, by omega⟩
theorem g_events (h : gI x A T E) (hE : E + 100000 ≤ 1000000000) : gO' A x T E (jf_Bc_events x (A 0)) (jt_Mo_events T) := by
  have h0 := h
  obtain ⟨ab, L, O, v, sg, rp, ⟨⟨kn, ⟨⟨b1, b2, b3, b4, b5, b6, b7⟩, ⟨c1, c2, c3⟩, ⟨j1, j2, j3⟩, -⟩, -⟩, -⟩, -⟩ := h
  refine gO_rd (r := T.1 38) h0 hE ?_ rfl
  unfold jf_Bc_events
  rw [y_gRs b1 b4, Option.bind_some, y_av j1, Option.bind_some]
  unfold jf_Jo_size
  rw [y_gI j1 j3]; rfl
theorem g_isConf (h : gI x A T E) (a : Int32) : jf_Bc_isConfiguration x (A 0) a = some (x, blw a (nI (tN T 11))) ∧ jt_Mo_isConfiguration T a = some (T, blw a (nI (tN T 11))) := by
  obtain ⟨ab, L, O, v, sg, rp, ⟨⟨kn, ⟨⟨b1, b2, b3, -⟩, -⟩, -⟩, ⟨hJ, hw, l2, -⟩, -⟩, ⟨hc, -⟩, -⟩ := h
  obtain ⟨i2, -, hl⟩ := hJ.1 _ _ l2
  rw [ls_len] at hl
  refine ⟨?_, isConf_eq (by have := hc.2.1.2; omega) hc.2.1.1 a⟩
  unfold jf_Bc_isConfiguration
  rw [y_gRs b1 b3, Option.bind_some, y_av i2.1, Option.bind_some, L_size i2, Option.bind_some, ls_len]
  dsimp only
  rw [isBelow_eq, Option.bind_some]
  exact if_pos (blw_and _ _)
theorem g_key (h : gI x A T E) (hE : E + 100000 ≤ 1000000000) (a : Int32) : gO' A x T E (jf_Bc_key x (A 0) a) (jt_Mo_key T a) := by
  have h0 := h
  have hC := g_isConf h a
  obtain ⟨ab, L, O, v, sg, rp, ⟨⟨kn, ⟨⟨b1, b2, b3, -⟩, -⟩, -⟩, ⟨hJ, hw, l2, -⟩, hDD, hKK, -⟩, ⟨hc, hd, hk, -⟩, -⟩ := h
  obtain ⟨i2, -, hl⟩ := hJ.1 _ _ l2
  have h8 := hc.2.1.2
  unfold jf_Bc_key
  rw [y_av b1, Option.bind_some, hC.1, Option.bind_some]
  dsimp only
  by_cases hb : blw a (nI (tN T 11)) = 0
  · rw [if_pos hb]
    refine gO_rd (r := -1) h0 hE rfl ?_
    unfold jt_Mo_key
    rw [hC.2, Option.bind_some]
    exact if_pos hb
  · obtain ⟨j, hj, rfl⟩ := blw_n (by omega) hb
    obtain ⟨k1, k2, -⟩ := hKK.1 j hj
    rw [if_neg hb, y_gRs b1 b3, Option.bind_some, y_av i2.1, Option.bind_some, L_get i2 hl (by rw [ls_len]; exact hj), ls_get hj, Option.bind_some]
    dsimp only
    rw [y_ck k1, Option.bind_some, y_gI k1 k2, Option.bind_some]
    exact gO_rd h0 hE rfl (key_eq hk hc.2.1.1 hj)
theorem g_failures (h : gI x A T E) (hE : E + 100000 ≤ 1000000000) (a : Int32) : gO' A x T E (jf_Bc_failures x (A 0) a) (jt_Mo_failures T a) := by
  have h0 := h
  have hC := g_isConf h a
  obtain ⟨ab, L, O, v, sg, rp, ⟨⟨kn, ⟨⟨b1, b2, b3, -⟩, -⟩, -⟩, ⟨hJ, hw, l2, -⟩, hDD, hKK, -⟩, ⟨hc, hd, hk, -⟩, -⟩ := h
  obtain ⟨i2, -, hl⟩ := hJ.1 _ _ l2
  have h8 := hc.2.1.2
  unfold jf_Bc_failures jt_Mo_failures
  rw [y_av b1, Option.bind_some, hC.1, Option.bind_some, hC.2, Option.bind_some]
  dsimp only
  by_cases hb : blw a (nI (tN T 11)) = 0
  · rw [if_pos hb, if_pos hb]
    exact gO_rd (r := -1) h0 hE rfl rfl
  · obtain ⟨j, hj, rfl⟩ := blw_n (by omega) hb
    obtain ⟨k1, k2, k3, k4, k5, k6, k7, k8⟩ := hKK.1 j hj
    have hr := (hk.2.2.2.2.1 j hj).1
    rw [if_neg hb, if_neg hb, y_gRs b1 b3, Option.bind_some, y_av i2.1, Option.bind_some, L_get i2 hl (by rw [ls_len]; exact hj), ls_get hj, Option.bind_some, key_eq hk hc.2.1.1 hj, Option.bind_some]
    dsimp only
    rw [y_ck k1, Option.bind_some, y_gI k1 k8, Option.bind_some, tl_n (by omega) (by decide), Option.bind_some]
    exact gO_rd h0 hE rfl rfl
end GO
