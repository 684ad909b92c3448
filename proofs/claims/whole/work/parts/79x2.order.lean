/-! The order is written. -/
section OW
variable {x y : q_S} {A : Nat → Nat} {T : tT} {E : Nat} {ab : Nat → Nat → Nat} {L L' : Nat → Option (List Nat)} {O O' : List Nat} {v sg : Nat → Nat → Int32} {rp : Nat → Nat}
theorem la_5 (A : Nat → Nat) (ab : Nat → Nat → Nat) (i : Nat) : la A ab (5 + i) = ab 2 i := by unfold la; rw [if_neg (by omega), Nat.add_sub_cancel_left]
theorem hI_ord (hh : hI x A ab L O v sg rp T) (hJ' : jL y L') (u : oL x y) (h11 : L' (A 11) = some (O'.map (ab 9))) (hne : ∀ b, b ≠ A 11 → L' b = L b) : hI y A ab L' O' v sg rp T := by
  obtain ⟨⟨kn, hS, hR⟩, ⟨hJ, hw, l2, l7, l9, l10, l11, ln, li⟩, hDD, hKK, hCC, hBB⟩ := hh
  have U : ∀ c a, c ≠ 2 → un x y c a := fun c a hc => un_oL u hc
  have ai : q_ai y = q_ai x := u.2.1
  have R := hI_rest hDD hKK hCC hBB (y := y) (fun c a h6 _ => U c a (by omega)) (fun t a _ => by rw [ai])
  have ne : ∀ i, i < 5 + tN T 2 → i ≠ 4 → la A ab i ≠ A 11 := fun i hi h4 z => h4 (li i 4 hi (by omega) z)
  refine ⟨⟨kn, hS.fu (U _ _ (by decide)) (U _ _ (by decide)) (U _ _ (by decide)) (U _ _ (by decide)) (U _ _ (by decide)) (by rw [ai]) (by rw [ai]), hR⟩, ⟨hJ', u.2.2.2.2.2.2.2.2, (hne _ (ne 0 (by omega) (by decide))).trans l2, (hne _ (ne 1 (by omega) (by decide))).trans l7, (hne _ (ne 2 (by omega) (by decide))).trans l9, (hne _ (ne 3 (by omega) (by decide))).trans l10, h11, fun i hi => (hne _ ?_).trans (ln i hi), li⟩, R.1, R.2.1, R.2.2.1, R.2.2.2⟩
  have := ne (5 + i) (by omega) (by omega)
  rw [la_5] at this
  exact this
theorem map_er {f : Nat → Nat} (O : List Nat) (p : Nat) : (O.map f).eraseIdx p = (O.eraseIdx p).map f := by
  refine List.ext_getElem? (fun i => ?_)
  rw [List.getElem?_eraseIdx, List.getElem?_map, List.getElem?_map, List.getElem?_map, List.getElem?_eraseIdx]
  by_cases h : i < p
  · rw [if_pos h, if_pos h]
  · rw [if_neg h, if_neg h]
theorem mem_er {c p : Nat} (hn : O.Nodup) (hp : O[p]? = some c) (w : Nat) : w ∈ O.eraseIdx p ↔ w ∈ O ∧ w ≠ c := by
  rw [List.mem_eraseIdx_iff_getElem?]
  constructor
  · rintro ⟨i, h1, h2⟩
    refine ⟨List.mem_of_getElem? h2, fun z => h1 ?_⟩
    subst z
    have hi := (List.getElem?_eq_some_iff.mp h2).1
    exact (List.getElem?_inj hi hn).mp (h2.trans hp.symm)
  · rintro ⟨h1, h2⟩
    obtain ⟨i, hi⟩ := List.mem_iff_getElem?.mp h1
    refine ⟨i, fun z => h2 ?_, hi⟩
    rw [z, hp] at hi
    exact (Option.some.inj hi).symm
theorem rm_L {c : Nat} (hh : hI x A ab L O v sg rp T) (hO : ∀ d, d ∈ O → d < tN T 16) (hc : c < tN T 16) : ∀ (m r i : Nat), i + r = O.length → r < m → (∀ p, p < i → O[p]? ≠ some c) → (c ∉ O ∧ jf_Sh_removeFromOrder_L2 m x (A 5) (some (ab 9 c)) (nI i) = some (x, ())) ∨ ∃ p y L', O[p]? = some c ∧ jf_Sh_removeFromOrder_L2 m x (A 5) (some (ab 9 c)) (nI i) = some (y, ()) ∧ hI y A ab L' (O.eraseIdx p) v sg rp T ∧ oL x y ∧ q_sz y = q_sz x ∧ q_sl y = q_sl x := by
  have hh0 := hh
  obtain ⟨⟨kn, ⟨-, -, -, -, ⟨s1, s2, s3, s4, s5, s6⟩, -⟩, hR⟩, ⟨hJ, hw, l2, l7, l9, l10, l11, -⟩, -, -, hCC, -⟩ := hh
  obtain ⟨i11, -, hl⟩ := hJ.1 _ _ l11
  have lS := L_size i11
  rw [List.length_map] at lS hl
  intro m
  induction m with
  | zero => intro r i _ h; omega
  | succ m ih =>
    intro r i hri hm hno
    show (_ ∧ jf_Sh_removeFromOrder_B2 (jf_Sh_removeFromOrder_L2 m) x (A 5) (some (ab 9 c)) (nI i) = _) ∨ ∃ p y L', _ ∧ jf_Sh_removeFromOrder_B2 (jf_Sh_removeFromOrder_L2 m) x (A 5) (some (ab 9 c)) (nI i) = _ ∧ _
    unfold jf_Sh_removeFromOrder_B2
    rw [y_gRs s1 s6, Option.bind_some, y_av i11.1, Option.bind_some, lS, Option.bind_some]
    dsimp only
    cases r with
    | zero =>
      rw [if_pos (nI_le (by omega) (by omega))]
      refine Or.inl ⟨fun z => ?_, rfl⟩
      obtain ⟨p, hp⟩ := List.mem_iff_getElem?.mp z
      exact hno p (by have := (List.getElem?_eq_some_iff.mp hp).1; omega) hp
    | succ r =>
      have hi : i < O.length := by omega
      obtain ⟨d, hd⟩ : ∃ d, O[i]? = some d := ⟨_, List.getElem?_eq_getElem hi⟩
      have hdm := hO d (List.mem_of_getElem? hd)
      have gt : jf_AL_get x (A 11) (nI i) = some (x, some (ab 9 d)) := by
        rw [L_get i11 (by rw [List.length_map]; exact hl) (by rw [List.length_map]; exact hi), List.getElem?_map, hd]; rfl
      rw [if_neg (nI_ge hi (by omega)), y_gRs s1 s6, Option.bind_some, y_av i11.1, Option.bind_some, gt, Option.bind_some]
      dsimp only
      by_cases hdc : d = c
      · obtain ⟨y, r, e1, e2, e3, e4, e5⟩ := L_remove hJ l11 hw (p := i) (by rw [List.length_map]; exact hi)
        rw [if_pos (by rw [hdc]), y_gRs s1 s6, Option.bind_some, y_av i11.1, Option.bind_some, e1, Option.bind_some]
        exact Or.inr ⟨i, y, _, by rw [hd, hdc], rfl, hI_ord hh0 e2 e3 (by rw [if_pos rfl, map_er]) (fun b hb => if_neg hb), e3, e4, e5⟩
      · rw [if_neg (fun z => hdc ((hCC.2 d c hdm hc).1 (Option.some.inj z))), nI_1]
        exact ih r (i + 1) (by omega) (by omega) (fun p hp => by
          by_cases e : p = i
          · rw [e, hd]; exact fun z => hdc (Option.some.inj z)
          · exact hno p (by omega))
theorem rm_eq {c : Nat} (hh : hI x A ab L O v sg rp T) (hO : ∀ d, d ∈ O → d < tN T 16) (hn : O.Nodup) (hl : O.length ≤ 10) (hc : c < tN T 16) : ∃ y L' O', jf_Sh_removeFromOrder x (A 5) (some (ab 9 c)) = some (y, ()) ∧ hI y A ab L' O' v sg rp T ∧ (∀ w, w ∈ O' ↔ w ∈ O ∧ w ≠ c) ∧ O'.Sublist O ∧ (c ∈ O → O'.length + 1 = O.length) ∧ cFr x y ∧ q_sz y = q_sz x ∧ q_sl y = q_sl x ∧ q_ai y = q_ai x := by
  unfold jf_Sh_removeFromOrder
  rcases rm_L hh hO hc lpK O.length 0 (Nat.zero_add _) (by unfold lpK; omega) (fun p hp => absurd hp (Nat.not_lt_zero p)) with ⟨h1, h2⟩ | ⟨p, y, L', h1, h2, h3, h4, h5, h6⟩
  · exact ⟨x, L, O, h2, hh, fun w => ⟨fun z => ⟨z, fun e => h1 (by rw [← e]; exact z)⟩, fun z => z.1⟩, List.Sublist.refl O, fun z => absurd z h1, cFr.rf x, rfl, rfl, rfl⟩
  · have hpl := (List.getElem?_eq_some_iff.mp h1).1
    exact ⟨y, L', _, h2, h3, mem_er hn h1, List.eraseIdx_sublist O p, fun _ => by rw [List.length_eraseIdx_of_lt hpl]; omega, cFr_oL h4, h5, h6, h4.2.1⟩
end OW
