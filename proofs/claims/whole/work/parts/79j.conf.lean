section CH
variable {x y : q_S} {A : Nat → Nat} {T : tT} {E : Nat} {ab : Nat → Nat → Nat} {L : Nat → Option (List Nat)} {O : List Nat} {v sg : Nat → Nat → Int32} {rp : Nat → Nat}
set_option maxHeartbeats 2000000 in
theorem pI_cf {n rj : Nat} {s m sng eag : Int32} {po : Option Nat} (hp : pI T E O v sg rp) (hn : n = tN T 11) (h8 : n < 8) (hb1 : ∀ d, d < 32 → hs s d → d < tN T 2) (hb2 : ∀ d, d < 32 → hs m d → hs s d) (hb3 : ∀ d, d < 32 → (hs sng d ↔ hs m d ∨ (hs s d ∧ T.2 11 d &&& 4 = 0))) (hb4 : ∀ d, d < 32 → (hs eag d ↔ hs m d ∨ (hs s d ∧ T.2 11 d &&& 6 = 0))) (hpo : ∀ q, po = some q → q < n ∧ ∀ r, tO T 20 q = some r → tO T 20 r = none) (hr1 : rj = n ∨ (rj < n ∧ rp rj = rj)) (hr2 : ∀ i, i < n → (rp i = rj ↔ T.2 18 i = s ∧ T.2 19 i = m ∧ (tO T 20 i).map rp = po.map rp)) : pI (tCf T n s m (oI po)) E O (vCf v n sng eag) sg (rCf rp n rj) := by
  obtain ⟨hC, hD, hk, hB, hx, he, hr⟩ := hp
  rw [← hn] at hk
  have e11 : tN (tCf T n s m (oI po)) 11 = n + 1 := nI_clamp (by omega)
  have K' := kI_cf hk h8 hpo hr1 hr2
  have k2 := hk.2.2.1
  refine ⟨⟨hC.1, ⟨by rw [e11]; rfl, by rw [e11]; omega⟩, hC.2.2⟩, hD, by rw [e11]; exact K', ⟨fun j hj => ?_, hB.2.1, fun j hj => hB.2.2 j (by rw [e11] at hj; omega)⟩, ⟨fun c hc => ?_, hx.2⟩, ⟨fun b hb => ?_, he.2.1, fun c d hc hd hsd => ?_⟩, hr⟩
  · rw [e11] at hj
    show (∀ d, d < 32 → hs (upd (T.2 18) n s j) d → d < tN T 2) ∧ (∀ d, d < 32 → hs (upd (T.2 19) n m j) d → hs (upd (T.2 18) n s j) d) ∧ (∀ d, d < 32 → (hs (vCf v n sng eag 2 j) d ↔ hs (upd (T.2 19) n m j) d ∨ (hs (upd (T.2 18) n s j) d ∧ T.2 11 d &&& 4 = 0))) ∧ (∀ d, d < 32 → (hs (vCf v n sng eag 3 j) d ↔ hs (upd (T.2 19) n m j) d ∨ (hs (upd (T.2 18) n s j) d ∧ T.2 11 d &&& 6 = 0)))
    by_cases h : j = n
    · subst h
      rw [upd_s, upd_s, show vCf v j sng eag 2 j = sng from if_pos ⟨rfl, rfl⟩, show vCf v j sng eag 3 j = eag by unfold vCf; rw [if_neg (fun z => by cases z.1), if_pos ⟨rfl, rfl⟩]]
      exact ⟨hb1, hb2, hb3, hb4⟩
    · rw [upd_n h, upd_n h, vCf_n h, vCf_n h]
      exact hB.1 j (by omega)
  · obtain ⟨⟨q1, q2, q3⟩, q4, q5, q6⟩ := hx.1 c hc
    refine ⟨⟨q1, by rw [e11]; exact Nat.lt_succ_of_lt (by rw [hn]; exact q2), ?_⟩, q4, ?_, q6⟩
    · exact (rCf_n (by rw [hn]; exact Nat.ne_of_lt q2)).trans q3
    · show (tO T 23 c).map (tV T 22) = (tO (tCf T n s m (oI po)) 20 (tV T 22 c)).map (rCf rp n rj)
      rw [tO_cf (by rw [hn]; exact Nat.ne_of_lt q2), map_cf (k := 0) (fun q hq => by have := k2 _ q (by rw [hn]; exact q2) hq; omega)]
      exact q5
  · obtain ⟨q1, q2, q3, q4, q5, q6, q7⟩ := he.1 b hb
    have hc : tV T 22 (tV T 25 b) ≠ n := by rw [hn]; exact Nat.ne_of_lt (hx.1 _ q1.2).1.2.1
    refine ⟨q1, q2, q3, q4, ?_, ?_, q7⟩
    · show hs (upd (T.2 18) n s (tV T 22 (tV T 25 b))) (tV T 26 b)
      rw [upd_n hc]; exact q5
    · show T.2 102 b = 1 ↔ hs (upd (T.2 19) n m (tV T 22 (tV T 25 b))) (tV T 26 b)
      rw [upd_n hc]; exact q6
  · have hsd : hs (vCf v n sng eag 2 (tV T 22 c)) d := hsd
    rw [vCf_n (by rw [hn]; exact Nat.ne_of_lt (hx.1 c hc).1.2.1)] at hsd
    exact he.2.2 c d hc hd hsd
set_option maxHeartbeats 2000000 in
theorem hI_cf {n rj e : Nat} {s m sng eag : Int32} {po : Option Nat} {L' : Nat → Option (List Nat)} (hh : hI x A ab L O v sg rp T) (hp : pI T E O v sg rp) (hn : n = tN T 11) (h8 : n < 8) (hpo : ∀ q, po = some q → q < n) (hJ' : jL y L') (hw' : wf y) (hL1 : L' (A 2) = some (ls n (ab 8) ++ [e])) (hL3 : ∀ q xs, L q = some xs → q ≠ A 2 → L' q = some xs) (U : ∀ c a, c ≠ 2 → q_al x c a = true → un x y c a) (hai : q_ai y = q_ai x) (ho : oK y e (nI rj) s m sng eag (po.map (ab 8)) (T.2 21 rj)) (hr : ∀ i, i < n → (ab 8 i = e ↔ rp i = rj)) (hrn : ∀ i, i < n → rp i < n) : hI y A (adb ab 8 n e) L' O (vCf v n sng eag) sg (rCf rp n rj) (tCf T n s m (oI po)) := by
  obtain ⟨⟨kn, hS, hR⟩, ⟨hJ, hw, l2, l7, l9, l10, l11, ln, li⟩, hDD, hKK, hCC, hBB⟩ := hh
  have hx := hp.2.2.2.2.1
  have hk2 := hp.2.2.1.2.2.1
  have e11 : tN (tCf T n s m (oI po)) 11 = n + 1 := nI_clamp (by omega)
  have ne : ∀ i, i < 5 + tN T 2 → i ≠ 0 → la A ab i ≠ A 2 := fun i hi hij z => hij (li i 0 hi (by omega) z)
  have m8 : ∀ (o : Option Nat), (∀ q, o = some q → q < n) → o.map (adb ab 8 n e 8) = o.map (ab 8) := fun o h => by
    cases o with
    | none => rfl
    | some q => exact congrArg some (adb_n (fun z => by have := h q rfl; omega))
  refine ⟨⟨kn, hS.fu (U _ _ (by decide) hS.1.1) (U _ _ (by decide) hS.2.1.1) (U _ _ (by decide) hS.2.2.1.1) (U _ _ (by decide) hS.2.2.2.1.1) (U _ _ (by decide) hS.2.2.2.2.1.1) (by rw [hai]) (by rw [hai]), hR⟩, ⟨hJ', hw', ?_, hL3 _ _ l7 (ne 1 (by omega) (by decide)), hL3 _ _ l9 (ne 2 (by omega) (by decide)), hL3 _ _ l10 (ne 3 (by omega) (by decide)), hL3 _ _ l11 (ne 4 (by omega) (by decide)), fun i hi => ?_, li⟩, fun i hi => ⟨(hDD i hi).1.fr (U 6 _ (by decide) (hDD i hi).1.1), fun k hk => ((hDD i hi).2 k hk).fr (U 7 _ (by decide) ((hDD i hi).2 k hk).1)⟩, ⟨fun j hj => ?_, fun i j hi hj => ?_⟩, ⟨fun c hc => ⟨?_, by rw [hai]; exact (hCC.1 c hc).2⟩, hCC.2⟩, ⟨fun b hb => ⟨(hBB.1 b hb).1.fr (U 10 _ (by decide) (hBB.1 b hb).1.1), by rw [hai]; exact (hBB.1 b hb).2⟩, hBB.2⟩⟩
  · rw [e11, ls_s, adb_s, hL1]
    congr 2
    exact (ls_c (fun i hi => by rw [adb_n (fun z => by omega)])).symm
  · refine hL3 _ _ (ln i hi) ?_
    have hi : i < tN T 2 := hi
    have := ne (5 + i) (by omega) (by omega)
    unfold la at this
    rw [if_neg (by omega), show 5 + i - 5 = i by omega] at this
    exact this
  · rw [e11] at hj
    show oK y (adb ab 8 n e 8 j) (nI (rCf rp n rj j)) (upd (T.2 18) n s j) (upd (T.2 19) n m j) (vCf v n sng eag 2 j) (vCf v n sng eag 3 j) ((tO (tCf T n s m (oI po)) 20 j).map (adb ab 8 n e 8)) (T.2 21 (rCf rp n rj j))
    by_cases h : j = n
    · subst h
      rw [adb_s, rCf_s, upd_s, upd_s, show vCf v j sng eag 2 j = sng from if_pos ⟨rfl, rfl⟩, show vCf v j sng eag 3 j = eag by unfold vCf; rw [if_neg (fun z => by cases z.1), if_pos ⟨rfl, rfl⟩], tO_cfs (fun q hq => by have := hpo q hq; omega), m8 po hpo]
      exact ho
    · have o := hKK.1 j (by omega)
      rw [adb_n (fun z => h z.2), rCf_n h, upd_n h, upd_n h, vCf_n h, vCf_n h, tO_cf h, m8 _ (fun q hq => by have := hk2 j q (by omega) hq; omega)]
      exact o.fr (U 8 _ (by decide) o.1)
  · rw [e11] at hi hj
    by_cases h : i = n
    · by_cases h' : j = n
      · rw [h, h']; exact ⟨fun _ => rfl, fun _ => rfl⟩
      · rw [h, adb_s, adb_n (fun z => h' z.2), rCf_s, rCf_n h', eq_comm, hr j (by omega)]
        exact eq_comm
    · by_cases h' : j = n
      · rw [h', adb_s, adb_n (fun z => h z.2), rCf_s, rCf_n h]
        exact hr i (by omega)
      · rw [adb_n (fun z => h z.2), adb_n (fun z => h' z.2), rCf_n h, rCf_n h']
        exact hKK.2 i j (by omega) (by omega)
  · have o := (hCC.1 c hc).1
    have q2 := (hx.1 c hc).1.2.1
    show oC y (ab 9 c) (nI c) (adb ab 8 n e 8 (tV T 22 c)) ((tO T 23 c).map (ab 9)) (ab 12 c) (v 0 c) (T.2 101 c) (v 1 c)
    rw [adb_n (fun z => by omega)]
    exact o.fr (U 9 _ (by decide) o.1)
end CH
