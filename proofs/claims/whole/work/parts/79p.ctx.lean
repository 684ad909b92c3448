/-! The context kept for a key. -/
section CX
variable {x : q_S} {A : Nat → Nat} {T : tT} {E : Nat} {ab : Nat → Nat → Nat} {L : Nat → Option (List Nat)} {O : List Nat} {v sg : Nat → Nat → Int32} {rp : Nat → Nat}
def isCx (T : tT) (O : List Nat) (k : Nat) (o : Option Nat) : Prop := ∀ c, o = some c ↔ c ∈ O ∧ tV T 22 c = k
theorem isCx_u {k : Nat} {o p : Option Nat} (h : isCx T O k o) (g : isCx T O k p) : o = p := by
  cases ho : o with
  | none =>
    cases hp : p with
    | none => rfl
    | some c => have := (h c).mpr ((g c).mp hp); rw [ho] at this; cases this
  | some c => exact ((g c).mpr ((h c).mp ho)).symm
theorem isCx_s (hp : pI T E O v sg rp) {k c : Nat} (h1 : c ∈ O) (h2 : tV T 22 c = k) : isCx T O k (some c) := fun d =>
  ⟨fun z => by cases z; exact ⟨h1, h2⟩, fun z => congrArg some (hp.2.2.2.2.2.2.2.2.2 c d h1 z.1 (h2.trans z.2.symm))⟩
theorem ctx_L (hp : pI T E O v sg rp) {k : Nat} (hk : k < 8) : ∀ (m r i : Nat), i + r = tN T 16 → r < m → (∀ c, c < i → ¬ (c ∈ O ∧ tV T 22 c = k)) → ∃ o, isCx T O k o ∧ jt_Mo_contextOf_L2 m T (nI k) (nI i) = some (T, oI o) := by
  have hp0 := hp
  obtain ⟨hC, hD, hkk, hB, hx, he, hr⟩ := hp
  have h30 := hC.2.2.1.2
  have h8 := hC.2.1.2
  have e16 : tf T 16 = nI (tN T 16) := hC.2.2.1.1
  have hmm := hr.1
  intro m
  induction m with
  | zero => intro r i _ h; omega
  | succ m ih =>
    intro r i hri hm hno
    show ∃ o, isCx T O k o ∧ jt_Mo_contextOf_B2 (jt_Mo_contextOf_L2 m) T (nI k) (nI i) = _
    unfold jt_Mo_contextOf_B2
    rw [e16]
    cases r with
    | zero =>
      rw [if_pos (nI_le (by omega) (by omega))]
      exact ⟨none, fun c => ⟨fun z => (by cases z), fun z => absurd z (hno c (by have := ((hmm c).mp z.1).1; omega))⟩, rfl⟩
    | succ r =>
      have hi : i < tN T 16 := by omega
      obtain ⟨⟨q1, q2, -⟩, -, -, q4, -⟩ := hx.1 i hi
      have nxt : ¬ (i ∈ O ∧ tV T 22 i = k) → ∃ o, isCx T O k o ∧ jt_Mo_contextOf_L2 m T (nI k) (nI (i + 1)) = some (T, oI o) := fun h =>
        ih r (i + 1) (by omega) (by omega) (fun c hc => by
          by_cases hci : c = i
          · rw [hci]; exact h
          · exact hno c (by omega))
      rw [if_neg (nI_ge hi (by omega)), tl_n (by omega) (by decide), Option.bind_some, nI_1]
      by_cases h0 : T.2 101 i = 0
      · rw [if_pos h0]
        exact nxt (fun z => by have := ((hmm i).mp z.1).2; rw [h0] at this; exact absurd this (by decide))
      · have hO : i ∈ O := (hmm i).mpr ⟨hi, q4.resolve_left h0⟩
        rw [if_neg h0, tl_n (by omega) (by decide), Option.bind_some, q1]
        by_cases hkey : nI (tV T 22 i) = nI k
        · have e := (nI_eq (by omega) (by omega)).mp hkey
          rw [if_pos hkey]
          exact ⟨some i, isCx_s hp0 hO e, rfl⟩
        · rw [if_neg hkey]
          exact nxt (fun z => hkey (by rw [z.2]))
theorem cxf_L (hh : hI x A ab L O v sg rp T) (hp : pI T E O v sg rp) {j : Nat} (hj : j < tN T 11) : ∀ (m r i : Nat), i + r = O.length → r < m → (∀ p c, p < i → O[p]? = some c → tV T 22 c ≠ rp j) → ∃ o, isCx T O (rp j) o ∧ jf_Sh_cachedFor_L2 m x (A 5) (some (ab 8 j)) (nI i) = some (x, o.map (ab 9)) := by
  obtain ⟨⟨kn, ⟨-, -, -, -, ⟨s1, s2, s3, s4, s5, s6⟩, -⟩, hR⟩, ⟨hJ, hw, l2, l7, l9, l10, l11, -⟩, -, hKK, hCC, -⟩ := hh
  obtain ⟨i11, -, hl⟩ := hJ.1 _ _ l11
  have lS := L_size i11
  rw [List.length_map] at lS hl
  have hmm := hp.2.2.2.2.2.2.1
  have hx := hp.2.2.2.2.1
  intro m
  induction m with
  | zero => intro r i _ h; omega
  | succ m ih =>
    intro r i hri hm hno
    show ∃ o, isCx T O (rp j) o ∧ jf_Sh_cachedFor_B2 (jf_Sh_cachedFor_L2 m) x (A 5) (some (ab 8 j)) (nI i) = _
    unfold jf_Sh_cachedFor_B2
    rw [y_gRs s1 s6, Option.bind_some, y_av i11.1, Option.bind_some, lS, Option.bind_some]
    dsimp only
    cases r with
    | zero =>
      rw [if_pos (nI_le (by omega) (by omega))]
      refine ⟨none, fun c => ⟨fun z => (by cases z), fun z => ?_⟩, rfl⟩
      obtain ⟨p, hpp⟩ := List.mem_iff_getElem?.mp z.1
      exact absurd z.2 (hno p c (by have := (List.getElem?_eq_some_iff.mp hpp).1; omega) hpp)
    | succ r =>
      have hi : i < O.length := by omega
      obtain ⟨c, hc⟩ : ∃ c, O[i]? = some c := ⟨_, List.getElem?_eq_getElem hi⟩
      have hcO := List.mem_of_getElem? hc
      have hcm := ((hmm c).mp hcO).1
      obtain ⟨⟨q1, q2, q3⟩, -⟩ := hx.1 c hcm
      obtain ⟨⟨g1, g2, g3, -⟩, -⟩ := hCC.1 c hcm
      have kk := hKK.2 (tV T 22 c) j q2 hj
      rw [q3] at kk
      have gt : jf_AL_get x (A 11) (nI i) = some (x, some (ab 9 c)) := by
        rw [L_get i11 (by rw [List.length_map]; exact hl) (by rw [List.length_map]; exact hi), List.getElem?_map, hc]; rfl
      rw [if_neg (nI_ge hi (by omega)), y_gRs s1 s6, Option.bind_some, y_av i11.1, Option.bind_some, gt, Option.bind_some]
      dsimp only
      rw [y_ck g1, Option.bind_some, y_gRs g1 g3, Option.bind_some]
      by_cases hkey : tV T 22 c = rp j
      · rw [if_pos (congrArg some (kk.mpr hkey)), y_gRs s1 s6, Option.bind_some, y_av i11.1, Option.bind_some, gt, Option.bind_some]
        dsimp only
        rw [y_ck g1, Option.bind_some]
        exact ⟨some c, isCx_s hp hcO hkey, rfl⟩
      · rw [if_neg (fun z => hkey (kk.mp (Option.some.inj z))), nI_1]
        exact ih r (i + 1) (by omega) (by omega) (fun p d hpi hd => by
          by_cases hpe : p = i
          · rw [hpe, hc] at hd; cases hd; exact hkey
          · exact hno p d (by omega) hd)
end CX
