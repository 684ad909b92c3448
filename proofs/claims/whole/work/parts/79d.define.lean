/-! define -/
def adb (ab : Nat → Nat → Nat) (c n a : Nat) : Nat → Nat → Nat := fun c' j => if c' = c ∧ j = n then a else ab c' j
theorem adb_s {ab : Nat → Nat → Nat} {c n a : Nat} : adb ab c n a c n = a := if_pos ⟨rfl, rfl⟩
theorem adb_n {ab : Nat → Nat → Nat} {c n a c' j : Nat} (h : ¬ (c' = c ∧ j = n)) : adb ab c n a c' j = ab c' j := if_neg h
theorem al_lt {x : q_S} {c a : Nat} (hw : wf x) (h : q_al x c a = true) : a < q_sz x := by
  refine Nat.lt_of_not_le (fun z => ?_)
  rw [hw.2.2.2 c a z] at h
  cases h
def tDef (T : tT) (n : Nat) (a b c d : Int32) : tT := tp (tset (tset (tset (tset T 10 (upd (T.2 10) n a)) 11 (upd (T.2 11) n b)) 12 (upd (T.2 12) n c)) 13 (upd (T.2 13) n d)) 2 (nI (n + 1))
section DF
variable {x y : q_S} {A : Nat → Nat} {T : tT} {E : Nat} {ab : Nat → Nat → Nat} {L : Nat → Option (List Nat)} {O : List Nat} {v sg : Nat → Nat → Int32} {rp : Nat → Nat}
set_option maxHeartbeats 1000000 in
theorem pI_def {n : Nat} {a b c d : Int32} (hp : pI T E O v sg rp) (hn : n = tN T 2) (h10 : n < 10) (h0 : tN T 11 = 0) (ha : ∃ i, i < 6 ∧ a = nI i) (hb : ∃ i, i < 16 ∧ b = nI i) (hc : ∃ i, i < 4 ∧ c = nI i) (hd : ∃ i, i < 4 ∧ d = nI i) : pI (tDef T n a b c d) E O v sg rp := by
  obtain ⟨hC, hD, hk, hB, hx, he, hr⟩ := hp
  have e2 : tN (tDef T n a b c d) 2 = n + 1 := nI_clamp (by omega)
  refine ⟨⟨⟨by rw [e2]; rfl, by rw [e2]; omega⟩, hC.2⟩, ⟨fun i hi => ?_, fun i hi => hD.2 i (by rw [e2] at hi; omega)⟩, hk, ⟨fun j hj => absurd (show j < tN T 11 from hj) (by omega), hB.2⟩, hx, ⟨fun b' hb' => ?_, he.2⟩, hr⟩
  · rw [e2] at hi
    show (upd (T.2 10) n a i = nI (upd (T.2 10) n a i).toNatClampNeg ∧ (upd (T.2 10) n a i).toNatClampNeg < 6) ∧ (upd (T.2 11) n b i = nI (upd (T.2 11) n b i).toNatClampNeg ∧ (upd (T.2 11) n b i).toNatClampNeg < 16) ∧ (upd (T.2 12) n c i = nI (upd (T.2 12) n c i).toNatClampNeg ∧ (upd (T.2 12) n c i).toNatClampNeg < 4) ∧ (upd (T.2 13) n d i = nI (upd (T.2 13) n d i).toNatClampNeg ∧ (upd (T.2 13) n d i).toNatClampNeg < 4) ∧ _
    by_cases hin : i = n
    · subst hin
      obtain ⟨i1, q1, rfl⟩ := ha
      obtain ⟨i2, q2, rfl⟩ := hb
      obtain ⟨i3, q3, rfl⟩ := hc
      obtain ⟨i4, q4, rfl⟩ := hd
      have hz : T.2 14 i = 0 := hD.2 i (by omega)
      rw [upd_s, upd_s, upd_s, upd_s, nI_clamp (by omega), nI_clamp (by omega), nI_clamp (by omega), nI_clamp (by omega)]
      refine ⟨⟨rfl, q1⟩, ⟨rfl, q2⟩, ⟨rfl, q3⟩, ⟨rfl, q4⟩, ⟨?_, ?_⟩, fun k hk => ?_⟩
      · show T.2 14 i = nI (T.2 14 i).toNatClampNeg
        rw [hz]; decide
      · show (T.2 14 i).toNatClampNeg ≤ 3
        rw [hz]; decide
      · have hk : k < (T.2 14 i).toNatClampNeg := hk
        rw [hz] at hk
        exact absurd hk (Nat.not_lt_zero k)
    · rw [upd_n hin, upd_n hin, upd_n hin, upd_n hin]
      exact hD.1 i (by omega)
  · obtain ⟨q1, ⟨q2, q3⟩, q4⟩ := he.1 b' hb'
    exact ⟨q1, ⟨q2, by rw [e2]; exact Nat.lt_succ_of_lt (by rw [hn]; exact q3)⟩, q4⟩
set_option maxHeartbeats 2000000 in
theorem hI_def {n e l : Nat} {a b c d : Int32} {L' : Nat → Option (List Nat)} (hh : hI x A ab L O v sg rp T) (hn : n = tN T 2) (h10 : n < 10) (hz : T.2 14 n = 0) (he : q_sz x ≤ e) (hl : q_sz x ≤ l) (hJ' : jL y L') (hw' : wf y) (hL1 : L' (A 7) = some (ls n (ab 6) ++ [e])) (hL2 : L' l = some []) (hL3 : ∀ q xs, L q = some xs → q ≠ A 7 → L' q = some xs) (U : ∀ c a, c ≠ 2 → ¬ (c = 6 ∧ a = e) → un x y c a) (hai : q_ai y = q_ai x) (ho : oD y e a b c d l) : hI y A (adb (adb ab 6 n e) 2 n l) L' O v sg rp (tDef T n a b c d) := by
  obtain ⟨⟨kn, hS, hR⟩, ⟨hJ, hw, l2, l7, l9, l10, l11, ln, li⟩, hDD, hKK, hCC, hBB⟩ := hh
  have e2 : tN (tDef T n a b c d) 2 = n + 1 := nI_clamp (by omega)
  have U0 : ∀ c a, c ≠ 2 → q_al x c a = true → un x y c a := fun c a hc h => U c a hc (fun z => by have := al_lt hw h; omega)
  have ne : ∀ i j, i < 5 + tN T 2 → j < 5 + tN T 2 → i ≠ j → la A ab i ≠ la A ab j := fun i j hi hj hij z => hij (li i j hi hj z)
  have lt : ∀ i, i < 5 + tN T 2 → la A ab i < q_sz x := fun i hi => by
    unfold la
    by_cases h5 : i < 5
    · rw [if_pos h5]
      have hc : i = 0 ∨ i = 1 ∨ i = 2 ∨ i = 3 ∨ i = 4 := by omega
      rcases hc with rfl | rfl | rfl | rfl | rfl
      · exact jL_lt hJ hw l2
      · exact jL_lt hJ hw l7
      · exact jL_lt hJ hw l9
      · exact jL_lt hJ hw l10
      · exact jL_lt hJ hw l11
    · rw [if_neg h5]
      exact jL_lt hJ hw (ln (i - 5) (by omega))
  have s2 : ls (n + 1) (adb (adb ab 6 n e) 2 n l 6) = ls n (ab 6) ++ [e] := by
    rw [ls_s, adb_n (fun z => by cases z.1), adb_s]
    congr 1
    exact ls_c (fun i hi => by rw [adb_n (fun z => by cases z.1), adb_n (fun z => by omega)])
  have lan : ∀ i, i < 5 + n → la A (adb (adb ab 6 n e) 2 n l) i = la A ab i := fun i hi => by
    unfold la
    by_cases h5 : i < 5
    · rw [if_pos h5, if_pos h5]
    · rw [if_neg h5, if_neg h5, adb_n (fun z => by omega), adb_n (fun z => by cases z.1)]
  have lae : la A (adb (adb ab 6 n e) 2 n l) (5 + n) = l := by
    unfold la
    rw [if_neg (by omega), show 5 + n - 5 = n by omega, adb_s]
  refine ⟨⟨kn, hS.fu (U0 _ _ (by decide) hS.1.1) (U0 _ _ (by decide) hS.2.1.1) (U0 _ _ (by decide) hS.2.2.1.1) (U0 _ _ (by decide) hS.2.2.2.1.1) (U0 _ _ (by decide) hS.2.2.2.2.1.1) (by rw [hai]) (by rw [hai]), hR⟩, ⟨hJ', hw', hL3 _ _ l2 (ne 0 1 (by omega) (by omega) (by decide)), ?_, hL3 _ _ l9 (ne 2 1 (by omega) (by omega) (by decide)), hL3 _ _ l10 (ne 3 1 (by omega) (by omega) (by decide)), hL3 _ _ l11 (ne 4 1 (by omega) (by omega) (by decide)), fun i hi => ?_, fun i j hi hj hij => ?_⟩, fun i hi => ?_, ⟨fun j hj => (hKK.1 j hj).fr (U0 8 _ (by decide) (hKK.1 j hj).1), hKK.2⟩, ⟨fun c hc => ⟨(hCC.1 c hc).1.fr (U0 9 _ (by decide) (hCC.1 c hc).1.1), by rw [hai]; exact (hCC.1 c hc).2⟩, hCC.2⟩, ⟨fun b hb => ⟨(hBB.1 b hb).1.fr (U0 10 _ (by decide) (hBB.1 b hb).1.1), by rw [hai]; exact (hBB.1 b hb).2⟩, hBB.2⟩⟩
  · rw [e2, s2]; exact hL1
  · rw [e2] at hi
    show L' (adb (adb ab 6 n e) 2 n l 2 i) = some (ls (tV T 14 i) (fun k => ab 7 (3 * i + k)))
    by_cases hin : i = n
    · subst hin
      rw [adb_s, hL2]
      show _ = some (ls (T.2 14 i).toNatClampNeg _)
      rw [hz]; rfl
    · rw [adb_n (fun z => hin z.2), adb_n (fun z => by cases z.1)]
      refine hL3 _ _ (ln i (by omega)) ?_
      have := ne (5 + i) 1 (by omega) (by omega) (by omega)
      unfold la at this
      rw [if_neg (by omega), show 5 + i - 5 = i by omega] at this
      exact this
  · rw [e2] at hi hj
    by_cases h1 : i = 5 + n
    · by_cases h2 : j = 5 + n
      · omega
      · rw [h1, lae, lan j (by omega)] at hij
        have := lt j (by omega)
        omega
    · by_cases h2 : j = 5 + n
      · rw [h2, lae, lan i (by omega)] at hij
        have := lt i (by omega)
        omega
      · rw [lan i (by omega), lan j (by omega)] at hij
        exact li i j (by omega) (by omega) hij
  · rw [e2] at hi
    show oD y (adb (adb ab 6 n e) 2 n l 6 i) (upd (T.2 10) n a i) (upd (T.2 11) n b i) (upd (T.2 12) n c i) (upd (T.2 13) n d i) (adb (adb ab 6 n e) 2 n l 2 i) ∧ ∀ k, k < tV T 14 i → oN y (ab 7 (3 * i + k)) (T.2 15 (3 * i + k)) (T.2 16 (3 * i + k)) (T.2 17 (3 * i + k))
    by_cases hin : i = n
    · subst hin
      rw [adb_n (fun z => by cases z.1), adb_s, adb_s, upd_s, upd_s, upd_s, upd_s]
      refine ⟨ho, fun k hk => ?_⟩
      have hk : k < (T.2 14 i).toNatClampNeg := hk
      rw [hz] at hk
      exact absurd hk (Nat.not_lt_zero k)
    · rw [adb_n (fun z => by cases z.1), adb_n (fun z => hin z.2), adb_n (c' := 2) (fun z => hin z.2), adb_n (fun z => by cases z.1), upd_n hin, upd_n hin, upd_n hin, upd_n hin]
      have := hDD i (by omega)
      exact ⟨this.1.fr (U0 6 _ (by decide) this.1.1), fun k hk => (this.2 k hk).fr (U0 7 _ (by decide) (this.2 k hk).1)⟩
end DF
