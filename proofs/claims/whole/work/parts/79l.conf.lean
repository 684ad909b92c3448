theorem and6 (u : Int32) : u &&& 6 = 0 ↔ u &&& 4 = 0 ∧ u &&& 2 = 0 := by
  have e : u &&& 6 = (u &&& 4) ||| (u &&& 2) := by
    rw [Int32.and_comm u 6, Int32.and_comm u 4, Int32.and_comm u 2, ← i_oa]; rfl
  rw [e]; exact i_or0 _ _
section CT
variable {x : q_S} {A : Nat → Nat} {T : tT} {E : Nat} {ab : Nat → Nat → Nat} {L : Nat → Option (List Nat)} {O : List Nat} {v sg : Nat → Nat → Int32} {rp : Nat → Nat}
theorem map_ab {n : Nat} (hK2 : ∀ i j, i < n → j < n → (ab 8 i = ab 8 j ↔ rp i = rp j)) {o p : Option Nat} (ho : ∀ q, o = some q → q < n) (hp : ∀ q, p = some q → q < n) : o.map (ab 8) = p.map (ab 8) ↔ o.map rp = p.map rp := by
  cases o with
  | none => cases p with
    | none => exact ⟨fun _ => rfl, fun _ => rfl⟩
    | some q => exact ⟨fun z => (by cases z), fun z => (by cases z)⟩
  | some r => cases p with
    | none => exact ⟨fun z => (by cases z), fun z => (by cases z)⟩
    | some q =>
      have := hK2 r q (ho r rfl) (hp q rfl)
      exact ⟨fun z => congrArg some (this.mp (Option.some.inj z)), fun z => congrArg some (this.mpr (Option.some.inj z))⟩
/-- configure's end in the class -/
def kC (x : q_S) (a0 : Nat) (a1 a2 a4 : Int32) (pk : Option Nat) : Option (q_S × Int32) :=
  (q_gR x (some a0) 0 0).bind fun v43 =>
  (q_av x v43 1).bind fun b47 =>
  (jf_Ca_ofProfile x b47 a2).bind fun p45 =>
  (q_gR p45.1 (some a0) 0 1).bind fun v49 =>
  (q_av p45.1 (some a0) 0).bind fun b53 =>
  (jf_Bc_sharedKey p45.1 b53 (a1 &&& p45.2) ((a1 &&& p45.2) &&& a4) pk).bind fun p51 =>
  (q_av p51.1 v49 2).bind fun b57 =>
  (jf_AL_add p51.1 b57 p51.2).bind fun p55 =>
  (q_gR p55.1 (some a0) 0 1).bind fun v59 =>
  (q_av p55.1 v59 2).bind fun b63 =>
  (jf_AL_size p55.1 b63).bind fun p61 =>
  some (p61.1, p61.2 - 1)
set_option maxHeartbeats 4000000 in
theorem kC_eq (hh : hI x A ab L O v sg rp T) (hp : pI T E O v sg rp) (hq : qI T v) (hE : E + 100000 ≤ 1000000000) {n : Nat} (hn : n = tN T 11) (h8 : n < 8) (a1 a2 a4 : Int32) {po : Option Nat} (hpo : ∀ q, po = some q → q < n ∧ ∀ r, tO T 20 q = some r → tO T 20 r = none) : gO' A x T E (kC x (A 0) a1 a2 a4 (po.map (ab 8))) (jt_Mo_configure_L74 lpK T a1 a2 (oI po) a4 0 0) := by
  have hh0 := hh
  have h10 := hp.1.1.2
  obtain ⟨s1, f1, g1⟩ := ofP_eq hh h10 a2
  obtain ⟨s, f2, g2⟩ := cnf_L hp.1.1.1 h10 (by rw [hn]; exact hp.1.2.1.1) h8 a1 a2 (oI po) a4 lpK (tN T 2) 0 0 (Nat.zero_add _) (by unfold lpK; omega) bt_0
  have es : a1 &&& s1 = s := hs_ext (fun d hd => by
    rw [hs_and hd, g1 d hd, g2 d hd]
    exact ⟨fun z => ⟨z.2.1, z.1, z.2.2⟩, fun z => ⟨z.2.1, z.1, z.2.2⟩⟩)
  have hb1 : ∀ d, d < 32 → hs s d → d < tN T 2 := fun d hd z => ((g2 d hd).mp z).1
  have hb2 : ∀ d, d < 32 → hs (s &&& a4) d → hs s d := fun d hd z => ((hs_and hd).mp z).1
  have sk := shK_L hh hp s (s &&& a4) (po.map (ab 8)) lpK (tN T 11) 0 (Nat.zero_add _) (by unfold lpK; omega) (fun k hk => absurd hk (Nat.not_lt_zero k))
  obtain ⟨⟨kn, ⟨⟨b1, b2, b3, -⟩, ⟨c1, c2, c3⟩, -⟩, hR⟩, ⟨hJ, hw, l2, -⟩, -, hKK, -⟩ := hh
  obtain ⟨i2, -, hl2⟩ := hJ.1 _ _ l2
  have hk := hp.2.2.1
  rw [← hn] at hk
  have hK2 : ∀ i j, i < n → j < n → (ab 8 i = ab 8 j ↔ rp i = rp j) := by rw [hn]; exact hKK.2
  have hpn : ∀ q, po = some q → q < n := fun q hq => (hpo q hq).1
  have htn : ∀ i, i < n → ∀ q, tO T 20 i = some q → q < n := fun i hi q hq => by have := hk.2.2.1 i q hi hq; omega
  have hrn : ∀ i, i < n → rp i < n := fun i hi => by have := (hk.2.2.2.2.1 i hi).1; omega
  rw [show jt_Mo_configure_L74 lpK T a1 a2 (oI po) a4 0 0 = some (tCf T n s (s &&& a4) (oI po), nI n) from f2]
  unfold kC
  rw [y_gRs b1 b2, Option.bind_some, y_av c1, Option.bind_some, f1, Option.bind_some]
  dsimp only
  rw [y_gRs b1 b3, Option.bind_some, y_av b1, Option.bind_some, es]
  unfold jf_Bc_sharedKey
  -- the end, for either
  have fin : ∀ (y0 : q_S) (e rj : Nat) (sng eag : Int32), jL y0 L → wf y0 → (∀ c a, c ≠ 2 → q_al x c a = true → un x y0 c a) → q_ai y0 = q_ai x → cFr x y0 → q_sz y0 ≤ q_sz x + 1 → q_sl y0 ≤ q_sl x + 7 → oK y0 e (nI rj) s (s &&& a4) sng eag (po.map (ab 8)) (T.2 21 rj) → (∀ d, d < 32 → (hs sng d ↔ hs (s &&& a4) d ∨ (hs s d ∧ T.2 11 d &&& 4 = 0))) → (∀ d, d < 32 → (hs eag d ↔ hs (s &&& a4) d ∨ (hs s d ∧ T.2 11 d &&& 6 = 0))) → (rj = n ∨ (rj < n ∧ rp rj = rj)) → (∀ i, i < n → (ab 8 i = e ↔ rp i = rj)) → (∀ i, i < n → (rp i = rj ↔ T.2 18 i = s ∧ T.2 19 i = s &&& a4 ∧ (tO T 20 i).map rp = po.map rp)) → gO' A x T E ((q_av y0 (some (A 2)) 2).bind fun b57 => (jf_AL_add y0 b57 (some e)).bind fun p55 => (q_gR p55.1 (some (A 0)) 0 1).bind fun v59 => (q_av p55.1 v59 2).bind fun b63 => (jf_AL_size p55.1 b63).bind fun p61 => some (p61.1, p61.2 - 1)) (some (tCf T n s (s &&& a4) (oI po), nI n)) := by
    intro y0 e rj sng eag J0 w0 U0 ai0 fr0 sz0 sl0 ho hb3 hb4 hr1 hr hr2
    rw [← hn] at l2
    have i0 := (J0.1 _ _ l2).1
    obtain ⟨y, q1, q2, q3⟩ := L_add J0 l2 w0 (q_ok_c ho.1 (by decide)) (by rw [ls_len]; omega)
    have gl := (q2.1 (A 2) (ls n (ab 8) ++ [e]) (if_pos rfl)).1
    have u0 := (U0 0 (A 0) (by decide) b1).tr (un_oL q3 (by decide))
    have y1 : q_al y 0 (A 0) = true := u0.1 b1
    have y3 : q_fd y 0 1 (A 0) = .ref (A 2) := by rw [u0.2]; exact b3
    rw [y_av i0.1, Option.bind_some, q1, Option.bind_some]
    dsimp only
    rw [y_gRs y1 y3, Option.bind_some, y_av gl.1, Option.bind_some, L_size gl, Option.bind_some, List.length_append, ls_len]
    dsimp only
    have h5 := q3.2.2.2.2.2.1
    have h6 := q3.2.2.2.2.2.2.2.1
    have H' := hI_cf (rj := rj) (sng := sng) (eag := eag) hh0 hp hn h8 hpn q2 q3.2.2.2.2.2.2.2.2 (if_pos rfl) (fun q xs hq hne => (if_neg hne).trans hq) (fun c a hc hal => (U0 c a hc hal).tr (un_oL q3 hc)) (by rw [q3.2.1, ai0]) (ho.fr (un_oL q3 (by decide))) hr hrn
    have P' := pI_cf hp hn h8 hb1 hb2 hb3 hb4 hpo hr1 hr2
    exact ⟨y, _, nI n, congrArg some (Prod.ext rfl (nI_pred n)), rfl, fr0.tr (cFr_oL q3), gI.mono (E := E) ⟨_, _, O, _, sg, _, H', P', hq⟩ (by omega) hE, by omega, (show q_sl y + 2000 * tN T 23 ≤ q_sl x + 10000 + 2000 * tN T 23 by omega)⟩
  rcases sk with ⟨j, hj, ⟨m1, m2, m3⟩, e1⟩ | ⟨hno, y0, e1, sng, eag, ho, hs3, hs4, J0, w0, U0, ai0, fr0, sz0, sl0⟩
  · rw [show jf_Bc_sharedKey_L3 lpK x (A 0) s (s &&& a4) (po.map (ab 8)) 0 = some (x, some (ab 8 j)) from e1, Option.bind_some]
    have oj := hKK.1 j hj
    rw [← hn] at hj
    rw [m1, m2, m3] at oj
    obtain ⟨-, -, bb3, bb4⟩ := hp.2.2.2.1.1 j (by omega)
    rw [m1, m2] at bb3 bb4
    refine fin x (ab 8 j) (rp j) _ _ hJ hw (fun c a _ _ => ⟨id, fun _ => rfl⟩) rfl (cFr.rf x) (by omega) (by omega) oj bb3 bb4 (Or.inr ⟨hrn j hj, (hk.2.2.2.2.1 j hj).2⟩) (fun i hi => hK2 i j hi hj) (fun i hi => ?_)
    rw [hk.2.2.2.2.2 i j hi hj, m1, m2, (map_ab hK2 (htn j hj) hpn).mp m3]
  · rw [show jf_Bc_sharedKey_L3 lpK x (A 0) s (s &&& a4) (po.map (ab 8)) 0 = some (y0, some (q_sz x)) from e1, Option.bind_some]
    have z21 : T.2 21 n = 0 := hp.2.2.2.1.2.2 n (by omega)
    rw [← hn] at ho hno
    rw [← z21] at ho
    have b4 : ∀ d, d < 32 → (hs sng d ↔ hs (s &&& a4) d ∨ (hs s d ∧ T.2 11 d &&& 4 = 0)) := fun d hd => by
      rw [hs3 d hd]
      constructor
      · rintro (z | ⟨z1, z2⟩)
        · exact Or.inl z
        · exact Or.inr ⟨z1, Classical.byContradiction (fun w => z2 ⟨hb1 d hd z1, w⟩)⟩
      · rintro (z | ⟨z1, z2⟩)
        · exact Or.inl z
        · exact Or.inr ⟨z1, fun w => w.2 z2⟩
    refine fin y0 (q_sz x) n sng eag J0 w0 U0 ai0 fr0 (by omega) (by omega) ho b4 (fun d hd => ?_) (Or.inl rfl) (fun i hi => ?_) (fun i hi => ?_)
    · rw [hs4 d hd, b4 d hd, and6]
      constructor
      · rintro (z | ⟨z | ⟨z1, z2⟩, z3⟩)
        · exact Or.inl z
        · exact Or.inl z
        · exact Or.inr ⟨z1, z2, Classical.byContradiction (fun w => z3 ⟨hb1 d hd z1, w⟩)⟩
      · rintro (z | ⟨z1, z2, z3⟩)
        · exact Or.inl z
        · exact Or.inr ⟨Or.inr ⟨z1, z2⟩, fun w => w.2 z3⟩
    · have o := hKK.1 i (by omega)
      have := al_lt hw o.1
      have h2 := hrn i hi
      exact ⟨fun z => by omega, fun z => by omega⟩
    · have h2 := hrn i hi
      refine ⟨fun z => by omega, fun z => absurd ⟨z.1, z.2.1, (map_ab hK2 (htn i hi) hpn).mpr z.2.2⟩ (hno i hi)⟩
end CT
