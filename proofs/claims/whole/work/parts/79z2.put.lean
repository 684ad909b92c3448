/-! A context gives way. -/
section PU
variable {x y : q_S} {A : Nat → Nat} {T : tT} {E : Nat} {ab : Nat → Nat → Nat} {L : Nat → Option (List Nat)} {O : List Nat} {v sg : Nat → Nat → Int32} {rp : Nat → Nat}
theorem cn_cP (p : Nat → Bool) : ∀ n, cn p n = (List.range n).countP p
  | 0 => rfl
  | n + 1 => by
    rw [List.range_succ, List.countP_append, ← cn_cP p n]
    cases h : p n with
    | true => rw [List.countP_cons_of_pos h, (cn_t h).1]; rfl
    | false => rw [List.countP_cons_of_neg (by rw [h]; decide), (cn_f h).1]; rfl
theorem kept_eq (hp : pI T E O v sg rp) : jt_Mo_keptNow T = some (T, nI O.length) := by
  have h30 := hp.1.2.2.1.2
  have e16 : tf T 16 = nI (tN T 16) := hp.1.2.2.1.1
  have hr := hp.2.2.2.2.2.2
  let p : Nat → Bool := fun d => decide (T.2 101 d = 1)
  have key : ∀ (m r i : Nat), i + r = tN T 16 → r < m → jt_Mo_keptNow_L4 m T (nI (cn p i)) (nI i) = some (T, nI (cn p (tN T 16))) := by
    intro m
    induction m with
    | zero => intro r i _ h; omega
    | succ m ih =>
      intro r i hri hm
      show jt_Mo_keptNow_B4 (jt_Mo_keptNow_L4 m) T (nI (cn p i)) (nI i) = _
      unfold jt_Mo_keptNow_B4
      rw [e16]
      cases r with
      | zero => rw [if_pos (nI_le (by omega) (by omega)), show i = tN T 16 by omega]
      | succ r =>
        have hi : i < tN T 16 := by omega
        have q4 := (hp.2.2.2.2.1.1 i hi).2.2.2.1
        have nx := ih r (i + 1) (by omega) (by omega)
        rw [if_neg (nI_ge hi (by omega)), tl_n (by omega) (by decide), Option.bind_some, nI_1, nI_1]
        by_cases h0 : T.2 101 i = 0
        · rw [if_pos h0]
          rw [(cn_f (p := p) (i := i) (decide_eq_false (by rw [h0]; decide))).1] at nx
          exact nx
        · rw [if_neg h0]
          rw [(cn_t (p := p) (i := i) (decide_eq_true (q4.resolve_left h0))).1] at nx
          exact nx
  have e : cn p (tN T 16) = O.length := by
    rw [cn_cP]
    have := cnt_rng (f := tV T 24) (P := p) (n := tN T 16) (O := O) (fun c => by rw [hr.1 c, decide_eq_true_iff]) hr.2.1 (fun _ => true)
    simp only [Bool.and_true] at this
    rw [this, List.countP_true]
  unfold jt_Mo_keptNow
  rw [← e]
  exact key lpK (tN T 16) 0 (Nat.zero_add _) (by unfold lpK; omega)
theorem srt_inj {f : Nat → Nat} : ∀ {O : List Nat} {a b : Nat}, O.Pairwise (fun a b => f b < f a) → a ∈ O → b ∈ O → f a = f b → a = b := by
  intro O a b hs ha hb h
  obtain ⟨i, hi⟩ := List.mem_iff_getElem?.mp ha
  obtain ⟨j, hj⟩ := List.mem_iff_getElem?.mp hb
  have c1 := cnt_srt O i a hs hi
  have c2 := cnt_srt O j b hs hj
  rw [h] at c1
  have : i = j := by omega
  rw [this, hj] at hi
  exact (Option.some.inj hi).symm
theorem dspC_L {f : Nat} (hh : hI x A ab L O v sg rp T) (hp : pI T E O v sg rp) (hf : f < tN T 16) : ∀ (m i : Nat), i < m → i ≤ O.length → (∀ (p w : Nat), i ≤ p → O[p]? = some w → isUp T w f) → (jf_Sh_displaceFor_L10 m x (A 5) (some (ab 9 f)) (nI i - 1) = some (x, ()) ∧ ∀ w, w ∈ O → isUp T w f) ∨ ∃ (p c : Nat), O[p]? = some c ∧ ¬ isUp T c f ∧ (∀ (q w : Nat), p < q → O[q]? = some w → isUp T w f) ∧ jf_Sh_displaceFor_L10 m x (A 5) (some (ab 9 f)) (nI i - 1) = (jg_Sh_close 6 x (A 5) (some (ab 9 c))).bind fun p29 => some (p29.1, ()) := by
  have hh0 := hh
  have hl6 : O.length ≤ 6 := by have := hp.2.2.2.2.2.2.2.2.1; have := hp.1.2.2.2.2.1.2.2; omega
  obtain ⟨⟨kn, ⟨-, -, -, -, ⟨s1, s2, s3, s4, s5, s6⟩, -⟩, hR⟩, ⟨hJ, hw, l2, l7, l9, l10, l11, -⟩, -, -, hCC, -⟩ := hh
  obtain ⟨i11, -, hl⟩ := hJ.1 _ _ l11
  have g1f := (hCC.1 f hf).1.1
  intro m
  induction m with
  | zero => intro i h; omega
  | succ m ih =>
    intro i hm hi hup
    show (jf_Sh_displaceFor_B10 (jf_Sh_displaceFor_L10 m) x (A 5) (some (ab 9 f)) (nI i - 1) = _ ∧ _) ∨ ∃ p c, _ ∧ _ ∧ _ ∧ jf_Sh_displaceFor_B10 (jf_Sh_displaceFor_L10 m) x (A 5) (some (ab 9 f)) (nI i - 1) = _
    unfold jf_Sh_displaceFor_B10
    cases i with
    | zero =>
      rw [if_pos (by decide)]
      refine Or.inl ⟨rfl, fun w hw => ?_⟩
      obtain ⟨p, hp⟩ := List.mem_iff_getElem?.mp hw
      exact hup p w (Nat.zero_le p) hp
    | succ i =>
      have hi' : i < O.length := by omega
      obtain ⟨c, hc⟩ : ∃ c, O[i]? = some c := ⟨_, List.getElem?_eq_getElem hi'⟩
      have hcn := ((hp.2.2.2.2.2.2.1 c).mp (List.mem_of_getElem? hc)).1
      have g1 := (hCC.1 c hcn).1.1
      have gt : jf_AL_get x (A 11) (nI i) = some (x, some (ab 9 c)) := by
        rw [L_get i11 hl (by rw [List.length_map]; exact hi'), List.getElem?_map, hc]; rfl
      rw [nI_pred, if_neg (nI_pos (by omega)), y_gRs s1 s6, Option.bind_some, y_av i11.1, Option.bind_some, gt, Option.bind_some]
      dsimp only
      rw [y_ck g1, Option.bind_some, y_av g1f, Option.bind_some, nI_dec]
      rcases hasA_eq hh0 hp hf hcn with ⟨u1, u2⟩ | ⟨u1, u2⟩
      · rw [u2, Option.bind_some]
        dsimp only
        rw [if_neg i10]
        exact ih i (by omega) (by omega) (fun p w h1 h2 => by
          by_cases e : p = i
          · rw [e, hc] at h2; cases h2; exact u1
          · exact hup p w (by omega) h2)
      · rw [u2, Option.bind_some]
        dsimp only
        rw [if_pos i00, y_gRs s1 s6, Option.bind_some, y_av i11.1, Option.bind_some, gt, Option.bind_some]
        dsimp only
        rw [y_ck g1, Option.bind_some, y_av s1, Option.bind_some]
        exact Or.inr ⟨i, c, hc, u1, fun q w h1 h2 => hup q w (by omega) h2, rfl⟩
theorem dspT_L {f : Nat} (hp : pI T E O v sg rp) (hf : f < tN T 16) : ∀ (m r i : Nat) (o : Option Nat), i + r = tN T 16 → r < m → (∀ c, o = some c → c < i ∧ c ∈ O ∧ ¬ isUp T c f ∧ ∀ w, w < i → w ∈ O → ¬ isUp T w f → tV T 24 c ≤ tV T 24 w) → (o = none → ∀ w, w < i → w ∈ O → isUp T w f) → (jt_Mo_displace_L4 m T (nI f) (oI o) (nI i) = some (T, ()) ∧ ∀ w, w ∈ O → isUp T w f) ∨ ∃ c, c ∈ O ∧ ¬ isUp T c f ∧ (∀ w, w ∈ O → ¬ isUp T w f → tV T 24 c ≤ tV T 24 w) ∧ jt_Mo_displace_L4 m T (nI f) (oI o) (nI i) = (jt_Mo_close T (nI c)).bind fun p1 => some (p1.1, ()) := by
  have h30 := hp.1.2.2.1.2
  have e16 : tf T 16 = nI (tN T 16) := hp.1.2.2.1.1
  have hmm := hp.2.2.2.2.2.2.1
  have h21 := hp.1.2.2.2.2.2.1.2
  have hEE := hp.1.2.2.2.2.2.2.2.2
  intro m
  induction m with
  | zero => intro r i o _ h; omega
  | succ m ih =>
    intro r i o hri hm hs hn
    show (jt_Mo_displace_B4 (jt_Mo_displace_L4 m) T (nI f) (oI o) (nI i) = _ ∧ _) ∨ ∃ c, _ ∧ _ ∧ _ ∧ jt_Mo_displace_B4 (jt_Mo_displace_L4 m) T (nI f) (oI o) (nI i) = _
    unfold jt_Mo_displace_B4
    rw [e16]
    cases r with
    | zero =>
      have ei : i = tN T 16 := by omega
      rw [if_pos (nI_le (by omega) (by omega))]
      cases o with
      | none =>
        rw [if_pos (show oI none < 0 by decide)]
        exact Or.inl ⟨rfl, fun w hw => hn rfl w (by have := ((hmm w).mp hw).1; omega) hw⟩
      | some c =>
        obtain ⟨a1, a2, a3, a4⟩ := hs c rfl
        rw [if_neg (show ¬ oI (some c) < 0 from nI_pos (by omega))]
        exact Or.inr ⟨c, a2, a3, fun w hw hu => a4 w (by have := ((hmm w).mp hw).1; omega) hw hu, rfl⟩
    | succ r =>
      have hi : i < tN T 16 := by omega
      obtain ⟨-, -, -, q4, q5, q6⟩ := hp.2.2.2.2.1.1 i hi
      rw [if_neg (nI_ge hi (by omega)), tl_n (t := 101) (by omega) (by decide), Option.bind_some, nI_1]
      have same : (i ∈ O → isUp T i f ∨ ∃ c, o = some c ∧ tV T 24 c ≤ tV T 24 i) → (jt_Mo_displace_L4 m T (nI f) (oI o) (nI (i + 1)) = some (T, ()) ∧ ∀ w, w ∈ O → isUp T w f) ∨ ∃ c, c ∈ O ∧ ¬ isUp T c f ∧ (∀ w, w ∈ O → ¬ isUp T w f → tV T 24 c ≤ tV T 24 w) ∧ jt_Mo_displace_L4 m T (nI f) (oI o) (nI (i + 1)) = (jt_Mo_close T (nI c)).bind fun p1 => some (p1.1, ()) := fun h =>
        ih r (i + 1) o (by omega) (by omega) (fun c hc => by
          obtain ⟨a1, a2, a3, a4⟩ := hs c hc
          refine ⟨by omega, a2, a3, fun w h1 h2 h3 => ?_⟩
          by_cases e : w = i
          · rw [e] at h2 h3 ⊢
            rcases h h2 with z | ⟨c', z1, z2⟩
            · exact absurd z h3
            · rw [hc] at z1; cases z1; exact z2
          · exact a4 w (by omega) h2 h3) (fun ho w h1 h2 => by
          by_cases e : w = i
          · rw [e] at h2 ⊢
            rcases h h2 with z | ⟨c', z1, z2⟩
            · exact z
            · rw [ho] at z1; cases z1
          · exact hn ho w (by omega) h2)
      by_cases h0 : T.2 101 i = 0
      · rw [if_pos h0]
        exact same (fun z => by have := ((hmm i).mp z).2; rw [h0] at this; exact absurd this (by decide))
      · have hO : i ∈ O := (hmm i).mpr ⟨hi, q4.resolve_left h0⟩
        rw [if_neg h0]
        rcases above_eq hp hf hi with ⟨u1, u2⟩ | ⟨u1, u2⟩
        · rw [u2, Option.bind_some]
          dsimp only
          rw [if_neg i10]
          exact same (fun _ => Or.inl u1)
        · rw [u2, Option.bind_some]
          dsimp only
          rw [if_pos i00]
          cases o with
          | none =>
            rw [if_pos (show oI none < 0 by decide)]
            exact ih r (i + 1) (some i) (by omega) (by omega) (fun c hc => by
              cases hc
              refine ⟨by omega, hO, u1, fun w h1 h2 h3 => ?_⟩
              by_cases e : w = i
              · rw [e]; exact Nat.le_refl _
              · exact absurd (hn rfl w (by omega) h2) h3) (fun z => by cases z)
          | some c =>
            obtain ⟨a1, a2, a3, a4⟩ := hs c rfl
            obtain ⟨-, -, -, -, c5, c6⟩ := hp.2.2.2.2.1.1 c (by omega)
            rw [if_neg (show ¬ oI (some c) < 0 from nI_pos (by omega)), tl_n (t := 24) (by omega) (by decide), Option.bind_some, show oI (some c) = nI c from rfl, tl_n (t := 24) (by omega) (by decide), Option.bind_some, q5, c5]
            by_cases hle : tV T 24 c ≤ tV T 24 i
            · rw [if_pos (nI_le hle (by omega))]
              exact same (fun _ => Or.inr ⟨c, rfl, hle⟩)
            · rw [if_neg (nI_ge (a := tV T 24 i) (by omega) (by omega))]
              exact ih r (i + 1) (some i) (by omega) (by omega) (fun c' hc => by
                cases hc
                refine ⟨by omega, hO, u1, fun w h1 h2 h3 => ?_⟩
                by_cases e : w = i
                · rw [e]; exact Nat.le_refl _
                · have := a4 w (by omega) h2 h3; omega) (fun z => by cases z)
theorem up_2 (hp : pI T E O v sg rp) {f : Nat} (hf : f < tN T 16) (hall : ∀ w, w ∈ O → isUp T w f) : O.length ≤ 2 := by
  have nd := srt_nd hp.2.2.2.2.2.2.2.1
  have r12 : ∀ w, w ∈ O → 1 ≤ rk T f w := fun w hw => by
    have := isUp_lt hp hf (hall w hw)
    unfold rk
    rw [if_neg (by omega)]
    split <;> omega
  have := nd_le 2 (O.map (fun w => rk T f w - 1)) (by
    refine List.pairwise_map.mpr (List.Pairwise.imp_of_mem ?_ nd)
    intro a b ha hb hab z
    have h1 := r12 a ha
    have h2 := r12 b hb
    exact hab (rk_inj (Or.inr (hall a ha)) (Or.inr (hall b hb)) (by omega))) (fun z hz => by
    obtain ⟨w, hw, rfl⟩ := List.mem_map.mp hz
    have := rk_3 T f w
    omega)
  rw [List.length_map] at this
  exact this
theorem dsp_eq {f : Nat} (hh : hP x A ab L O v sg rp T E (some f)) (hE : E + 201 * O.length ≤ 1000000000) (hf : f < tN T 16) (h3 : 3 ≤ O.length) : ∃ y T' L' O' v' E', jf_Sh_displaceFor x (A 5) (some (ab 9 f)) = some (y, ()) ∧ jt_Mo_displace T (nI f) = some (T', ()) ∧ clR x A ab sg rp (some f) T O v E y T' L' O' v' E' ∧ O'.length < O.length ∧ (∀ w, isUp T w f → w ∈ O → w ∈ O') := by
  have h6 := hh.len
  obtain ⟨hi, hp, hq⟩ := id hh
  have h30 := hp.1.2.2.1.2
  have hr := hp.2.2.2.2.2.2
  obtain ⟨⟨kn, ⟨-, -, -, -, ⟨s1, s2, s3, s4, s5, s6⟩, -⟩, hR⟩, ⟨hJ, hw, l2, l7, l9, l10, l11, -⟩, -⟩ := id hi
  have i11 := (hJ.1 _ _ l11).1
  have lS := L_size i11
  rw [List.length_map] at lS
  unfold jf_Sh_displaceFor jt_Mo_displace
  rw [y_gRs s1 s6, Option.bind_some, y_av i11.1, Option.bind_some, lS, Option.bind_some]
  dsimp only
  rcases dspC_L hi hp hf lpK O.length (by unfold lpK; omega) (Nat.le_refl _) (fun p w h1 h2 => by have := (List.getElem?_eq_some_iff.mp h2).1; omega) with ⟨-, hall⟩ | ⟨p, c, c1, c2, c3, c4⟩
  · have := up_2 hp hf hall; omega
  · rcases dspT_L hp hf lpK (tN T 16) 0 none (Nat.zero_add _) (by unfold lpK; omega) (fun c hc => by cases hc) (fun _ w hw => absurd hw (Nat.not_lt_zero w)) with ⟨-, hall⟩ | ⟨d, d1, d2, d3, d4⟩
    · have := up_2 hp hf hall; omega
    · have hcO := List.mem_of_getElem? c1
      have hcd : c = d := by
        obtain ⟨q, hq⟩ := List.mem_iff_getElem?.mp d1
        refine srt_inj hr.2.1 hcO d1 (Nat.le_antisymm ?_ (d3 c hcO c2))
        -- the class's one stands last
        have hqp : q ≤ p := Nat.le_of_not_lt (fun z => d2 (c3 q d z hq))
        by_cases e : q = p
        · rw [e, c1] at hq; cases hq; exact Nat.le_refl _
        · have k1 := cnt_srt O p c hr.2.1 c1
          have k2 := cnt_srt O q d hr.2.1 hq
          by_cases hlt : tV T 24 c ≤ tV T 24 d
          · exact hlt
          · have : O.countP (fun y => decide (tV T 24 c < tV T 24 y)) ≤ O.countP (fun y => decide (tV T 24 d < tV T 24 y)) := List.countP_mono_left (fun y _ hy => by
              rw [decide_eq_true_iff] at hy ⊢; omega)
            omega
      subst hcd
      obtain ⟨y, T', L', O', v', E', r, r1, r2, r3, r4, r5⟩ := close_eq (n := 3) hh hE hcO
      rw [c4, show jt_Mo_displace_L4 lpK T (nI f) (-1) 0 = (jt_Mo_close T (nI c)).bind fun p1 => some (p1.1, ()) from d4, r1, r2, Option.bind_some, Option.bind_some]
      refine ⟨y, T', L', O', v', E', rfl, rfl, r3, ?_, fun w hu hwO => r5 w hwO (fun z => c2 (by rw [← z]; exact hu)) (fun z => ?_)⟩
      · have hsl := r3.2.2.1
        have := hsl.length_le
        by_cases e : O'.length = O.length
        · rw [hsl.eq_of_length e] at r4; exact absurd hcO r4
        · omega
      · -- c above w, w above f
        rcases hu with hu | ⟨u, hu1, hu2⟩
        · rcases z with z | ⟨w', z1, z2⟩
          · exact c2 (Or.inr ⟨w, hu, z⟩)
          · have := top3 hp hf hu z1
            rw [z2] at this; cases this
        · have := top3 hp hf hu1 hu2
          rcases z with z | ⟨w', z1, z2⟩
          · rw [z] at this; cases this
          · rw [z1] at this; cases this
end PU
