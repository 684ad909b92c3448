/-! The law: every run of calls. -/
theorem cS.fr {x y : q_S} {A : Nat → Nat} {dn cap tot : Int32} {kn rg : Nat → Int32} (h : cS x A dn cap tot kn rg) (hal : ∀ c, c ≠ 11 → q_al y c = q_al x c) (hf : ∀ c, c ≠ 11 → q_fd y c = q_fd x c) (hi : ∀ t, t < 10 → q_ai y t = q_ai x t) : cS y A dn cap tot kn rg := by
  unfold cS at h ⊢
  rw [hal 0 (by decide), hal 1 (by decide), hal 3 (by decide), hal 4 (by decide), hal 5 (by decide), hf 0 (by decide), hf 1 (by decide), hf 3 (by decide), hf 4 (by decide), hf 5 (by decide), hi 1 (by decide), hi 3 (by decide)]
  exact h
theorem lS_eq {y : q_S} {z0 mo b L : Nat} {xs : Nat → Int32} (he : q_en y = (z0, mo, b, L, xs)) {i : Nat} (hi : i < L) (hL : L < 2 ^ 31) : q_lS y (some b) (nI i) = some (xs i) := by
  have e1 : q_sb y = b := by unfold q_sb; rw [he]
  have e2 : q_sL y = L := by unfold q_sL; rw [he]
  have e3 : q_sx y = xs := by unfold q_sx; rw [he]
  unfold q_lS
  rw [e1, e2, e3, if_pos ⟨rfl, nI_in hi hL⟩, nI_clamp (by omega)]
theorem lenS_eq {y : q_S} {z0 mo b L : Nat} {xs : Nat → Int32} (he : q_en y = (z0, mo, b, L, xs)) : q_lenS y (some b) = some (nI L) := by
  have e1 : q_sb y = b := by unfold q_sb; rw [he]
  have e2 : q_sL y = L := by unfold q_sL; rw [he]
  unfold q_lenS
  rw [e1, e2, if_pos rfl]; rfl
theorem cell_eq {y : q_S} {z0 mo b L : Nat} {xs : Nat → Int32} (he : q_en y = (z0, mo, b, L, xs)) (hL : L < 2 ^ 31) : jf_La_cell y (some b) 0 = some (y, if L = 0 then 0 else xs 0) := by
  unfold jf_La_cell
  rw [lenS_eq he, Option.bind_some]
  by_cases h : L = 0
  · rw [if_pos h, if_pos (by rw [h]; decide)]
  · rw [if_neg h, if_neg (nI_nle (by omega) hL), show q_lS y (some b) 0 = some (xs 0) from lS_eq he (i := 0) (Nat.pos_of_ne_zero h) hL]; rfl
theorem lg_cmp_self (v : Int64) : lg_cmp v v = 0 := by
  unfold lg_cmp
  rw [if_neg (Int64.lt_irrefl), if_pos rfl]
theorem mo_11 (k : Nat) (hk : tik k = true) : jdv_11.getD k .null = .int 0 := by
  have hk' : k ∈ [0, 2, 11, 16, 21, 22, 23, 32, 37, 38] := by simpa [tik] using hk
  simp only [List.mem_cons, List.not_mem_nil, or_false] at hk'
  rcases hk' with rfl | rfl | rfl | rfl | rfl | rfl | rfl | rfl | rfl | rfl <;> rfl
def gO (sz : Nat) (o : Option (q_S × Int32)) : Prop := ∃ p : q_S × Int32, o = some p ∧ p.2 = 1 ∧ q_sz p.1 ≤ sz + 600000 ∧ q_sl p.1 ≤ 7302250
/-- the reference moves, the class's part stays -/
theorem gI_tF {x y : q_S} {A : Nat → Nat} {T : tT} {E : Nat} (h : gI x A T E) (u : tFr x y) : gI y A T E := by
  obtain ⟨ab, L, O, v, sg, rp, hh, hp, hq⟩ := h
  obtain ⟨u1, u2, -, u4, u5, u6, u7, u8, u9⟩ := u
  obtain ⟨⟨kn, hS, hR⟩, ⟨hJ, hw, l2, l7, l9, l10, l11, ln, li⟩, hDD, hKK, hCC, hBB⟩ := hh
  have U : ∀ c a, c ≠ 11 → un x y c a := fun c a hc => un_c (by rw [u4]) (u7 c hc)
  have R := hI_rest hDD hKK hCC hBB (y := y) (fun c a _ h10 => U c a (by omega)) (fun t a ht => by rw [u8 t (by omega)])
  refine ⟨ab, L, O, v, sg, rp, ⟨⟨kn, hS.fr (fun c _ => by rw [u4]) u7 u8, hR⟩, ⟨jL_cls hJ (fun c b hb => by rw [u4]; exact hb) (u7 2 (by decide)) u5 u6, ?_, l2, l7, l9, l10, l11, ln, li⟩, R.1, R.2.1, R.2.2.1, R.2.2.2⟩, hp, hq⟩
  refine ⟨by rw [q_z0_en u6, u1]; exact hw.1, by rw [q_z0_en u6, u5]; exact hw.2.1, fun t b hb => ?_, fun c b hb => ?_⟩
  · rw [u1] at hb
    exact ⟨u9 t b (hw.2.2.1 t b hb).1, by rw [u5]; exact (hw.2.2.1 t b hb).2⟩
  · rw [u1] at hb
    rw [u4]; exact hw.2.2.2 c b hb
theorem cap_n (c : Int32) : ∃ n, cCap c = nI n ∧ 3 ≤ n ∧ n ≤ 6 := by
  unfold cCap
  by_cases h6 : c < 6
  · rw [if_pos h6]
    by_cases h3 : (3 : Int32) < c
    · rw [if_pos h3]
      have hc : ¬ c < 0 := fun z => by
        rw [Int32.lt_iff_toInt_lt] at z h3
        have e1 : (3 : Int32).toInt = 3 := by decide
        have e2 : (0 : Int32).toInt = 0 := by decide
        omega
      obtain ⟨j, hj, e⟩ := nI_of hc
      rw [e] at h3 h6 ⊢
      have a := (nI_ltI (a := 3) (by decide) hj).mp h3
      have b := (nI_ltI (b := 6) hj (by decide)).mp h6
      exact ⟨j, rfl, by omega, by omega⟩
    · rw [if_neg h3]; exact ⟨3, rfl, by omega, by omega⟩
  · rw [if_neg h6, if_pos (by decide)]; exact ⟨6, rfl, by omega, by omega⟩
set_option maxHeartbeats 2000000 in
theorem gI_0 {x : q_S} {A : Nat → Nat} {cap : Int32} {n : Nat} (hS : cS x A 0 cap 0 kn0 (fun _ => 0)) (hJ : jL x (cL0 A)) (hw : wf x) (hcap : cap = nI n) (hn : 3 ≤ n ∧ n ≤ 6) (d : A 7 < A 2 ∧ A 2 < A 9 ∧ A 9 < A 10 ∧ A 10 < A 11) : gI x A (T0 cap) 0 := by
  have z0 : (0 : Int32).toNatClampNeg = 0 := by decide
  have e2 : tN (T0 cap) 2 = 0 := z0
  have e11 : tN (T0 cap) 11 = 0 := z0
  have e16 : tN (T0 cap) 16 = 0 := z0
  have e21 : tN (T0 cap) 21 = 0 := z0
  have e23 : tN (T0 cap) 23 = 0 := z0
  have e38 : tN (T0 cap) 38 = 0 := z0
  have e0 : tN (T0 cap) 0 = n := by
    show cap.toNatClampNeg = n
    rw [hcap]; exact nI_clamp (by omega)
  have no : ∀ {k i : Nat} {P : Prop}, tN (T0 cap) k = 0 → i < tN (T0 cap) k → P := fun h h' => by omega
  have lse : ∀ (k : Nat) (f : Nat → Nat), tN (T0 cap) k = 0 → ls (tN (T0 cap) k) f = [] := fun k f h => by rw [h]; rfl
  refine ⟨fun _ _ => 0, cL0 A, [], fun _ _ => 0, fun _ _ => 0, id, ⟨⟨kn0, hS, Rk_0⟩, ⟨hJ, hw, ?_, ?_, ?_, ?_, ?_, fun i hi => no e2 hi, fun i j hi hj h => ?_⟩, fun i hi => no e2 hi, ⟨fun i hi => no e11 hi, fun i j hi => no e11 hi⟩, ⟨fun i hi => no e16 hi, fun i j hi => no e16 hi⟩, ⟨fun i hi => no e23 hi, fun i j hi => no e23 hi⟩⟩, ⟨⟨?_, ?_, ?_, ?_, ?_, ?_, ?_, Or.inl rfl, by decide⟩, ⟨fun i hi => no e2 hi, fun i _ => rfl⟩, ⟨by omega, fun i hi => no e11 hi, fun i j hi => no e11 hi, fun i j k hi => no e11 hi, fun i hi => no e11 hi, fun i j hi => no e11 hi⟩, ⟨fun i hi => no e11 hi, fun j => ?_, fun j _ => rfl⟩, ⟨fun i hi => no e16 hi, fun i _ => ⟨rfl, rfl⟩⟩, ⟨fun i hi => no e23 hi, fun i _ => ⟨rfl, rfl, rfl, rfl⟩, fun i j hi => no e16 hi⟩, ⟨fun c => ⟨(fun z => by cases z), fun z => no e16 z.1⟩, List.Pairwise.nil, Nat.zero_le _, (fun c e hc => by cases hc)⟩⟩, fun i hi => no e16 hi⟩
  · rw [lse 11 _ e11]; exact if_pos (Or.inl rfl)
  · rw [lse 2 _ e2]; exact if_pos (Or.inr (Or.inl rfl))
  · rw [lse 23 _ e23]; exact if_pos (Or.inr (Or.inr (Or.inl rfl)))
  · rw [lse 16 _ e16]; exact if_pos (Or.inr (Or.inr (Or.inr (Or.inl rfl))))
  · exact if_pos (Or.inr (Or.inr (Or.inr (Or.inr rfl))))
  · rw [e2] at hi hj
    have l0 : la A (fun _ _ => 0) 0 = A 2 := rfl
    have l1 : la A (fun _ _ => 0) 1 = A 7 := rfl
    have l2 : la A (fun _ _ => 0) 2 = A 9 := rfl
    have l3 : la A (fun _ _ => 0) 3 = A 10 := rfl
    have l4 : la A (fun _ _ => 0) 4 = A 11 := rfl
    have hi' : i = 0 ∨ i = 1 ∨ i = 2 ∨ i = 3 ∨ i = 4 := by omega
    have hj' : j = 0 ∨ j = 1 ∨ j = 2 ∨ j = 3 ∨ j = 4 := by omega
    rcases hi' with rfl | rfl | rfl | rfl | rfl <;> rcases hj' with rfl | rfl | rfl | rfl | rfl <;> simp only [l0, l1, l2, l3, l4] at h <;> omega
  · rw [e2]; exact ⟨rfl, by decide⟩
  · rw [e11]; exact ⟨rfl, by decide⟩
  · rw [e16]; exact ⟨rfl, by decide⟩
  · rw [e23]; exact ⟨rfl, by decide⟩
  · rw [e0]; exact ⟨hcap, hn⟩
  · rw [e21]; exact ⟨rfl, Nat.le_refl _⟩
  · rw [e38]; exact ⟨rfl, Nat.le_refl _⟩
  · exact ⟨(show (0 : Int32) = nI (0 : Int32).toNatClampNeg by decide), (show (0 : Int32).toNatClampNeg ≤ 2 by decide)⟩
/-- after t calls -/
def lwS (A ad : Nat → Nat) (m sz z0 mo b L : Nat) (xs : Nat → Int32) (t : Nat) (x : q_S) (T : tT) : Prop := gI x A T (100000 * t) ∧ tM x m ad T ∧ q_en x = (z0, mo, b, L, xs) ∧ q_sz x ≤ sz + 1000 + 1000 * t ∧ q_sl x ≤ 100000 + 10000 * t + 2000 * tN T 23
section LW
variable {A ad : Nat → Nat} {m sz z0 mo b L : Nat} {xs : Nat → Int32}
set_option maxRecDepth 20000 in
theorem lwS_n {t : Nat} {x y z : q_S} {T T' : tT} (h : lwS A ad m sz z0 mo b L xs t x T) (fr : cFr x y) (g : gI y A T' (100000 * t + 100000)) (c1 : q_sz y ≤ q_sz x + 1000) (c2 : q_sl y + 2000 * tN T 23 ≤ q_sl x + 10000 + 2000 * tN T' 23) (hz : tM z m ad T') (u : tFr y z) : lwS A ad m sz z0 mo b L xs (t + 1) z T' := by
  obtain ⟨h1, h2, h3, h4, h5⟩ := h
  refine ⟨?_, hz, ?_, ?_, ?_⟩
  · have := gI_tF g u
    rw [show 100000 * (t + 1) = 100000 * t + 100000 by omega]
    exact this
  · rw [u.2.2.2.2.2.1, fr.2.2.2.1]; exact h3
  · rw [u.1]; omega
  · rw [u.2.1]; omega
theorem sub5 {i : Nat} (hL : L ≤ 2561) (hi : 1 ≤ i) (hi2 : i < 10000) : (nI L - 5 < nI i) ↔ L < i + 5 := by
  by_cases h : 5 ≤ L
  · rw [show nI L - 5 = nI (L - 5) from nI_sub (b := 5) h, nI_ltI (by omega) (by omega)]
    omega
  · have h8 : ∀ j : Fin 5, nI j.1 - 5 < 0 := by decide
    have h9 : nI L - 5 < 0 := h8 ⟨L, by omega⟩
    refine ⟨fun _ => by omega, fun _ => ?_⟩
    have h0 := nI_pos' (n := i) (by omega)
    rw [Int32.lt_iff_toInt_lt] at h9 ⊢
    rw [Int32.le_iff_toInt_le] at h0
    omega
set_option maxHeartbeats 16000000 in
set_option maxRecDepth 20000 in
theorem g_loop (hL : L ≤ 2561) : ∀ (mm t : Nat) (x : q_S) (T : tT), lwS A ad m sz z0 mo b L xs t x T → t ≤ 512 → 513 < t + mm → gO sz (jf_La_law_L28 mm x (some b) (some (A 0)) (some m) (nI (1 + 5 * t))) := by
  intro mm
  induction mm with
  | zero => intro t x T _ h1 h2; omega
  | succ mm ih =>
    intro t x T H ht hf
    obtain ⟨hG, hM, he, c1, c2⟩ := id H
    have b200 : tN T 23 ≤ 200 := by
      obtain ⟨ab, L', O, v, sg, rp, -, hp, -⟩ := id hG
      exact hp.1.2.2.2.1.2
    have hA : q_al x 0 (A 0) = true := by
      obtain ⟨ab, L', O, v, sg, rp, ⟨⟨kn, ⟨⟨a0, -⟩, -⟩, -⟩, -⟩, -, -⟩ := id hG
      exact a0
    show gO sz (jf_La_law_B28 (jf_La_law_L28 mm) x (some b) (some (A 0)) (some m) (nI (1 + 5 * t)))
    unfold jf_La_law_B28
    rw [lenS_eq he, Option.bind_some]
    by_cases hend : L < 1 + 5 * t + 5
    · rw [if_pos ((sub5 hL (by omega) (by omega)).mpr hend)]
      exact ⟨(x, 1), rfl, rfl, (show q_sz x ≤ sz + 600000 by omega), (show q_sl x ≤ 7302250 by omega)⟩
    · rw [if_neg (fun z => hend ((sub5 hL (by omega) (by omega)).mp z))]
      have hE : 100000 * t + 100000 ≤ 1000000000 := by omega
      have ht1 : t + 1 ≤ 512 := by omega
      have ei : nI (1 + 5 * t) + 5 = nI (1 + 5 * (t + 1)) := by
        rw [show (5 : Int32) = nI 5 from rfl, nI_add]
        congr 1
      have lS : ∀ (y : q_S), q_en y = q_en x → ∀ j, j < 5 → q_lS y (some b) (nI (1 + 5 * t + j)) = some (xs (1 + 5 * t + j)) := fun y hy j hj => lS_eq (hy.trans he) (by omega) (by omega)
      have r0 : q_lS x (some b) (nI (1 + 5 * t)) = some (xs (1 + 5 * t)) := lS x rfl 0 (by decide)
      have r1 : ∀ y, q_en y = q_en x → q_lS y (some b) (nI (1 + 5 * t) + 1) = some (xs (1 + 5 * t + 1)) := fun y hy => by rw [show (1 : Int32) = nI 1 from rfl, nI_add]; exact lS y hy 1 (by decide)
      have r2 : ∀ y, q_en y = q_en x → q_lS y (some b) (nI (1 + 5 * t) + 2) = some (xs (1 + 5 * t + 2)) := fun y hy => by rw [show (2 : Int32) = nI 2 from rfl, nI_add]; exact lS y hy 2 (by decide)
      have r3 : ∀ y, q_en y = q_en x → q_lS y (some b) (nI (1 + 5 * t) + 3) = some (xs (1 + 5 * t + 3)) := fun y hy => by rw [show (3 : Int32) = nI 3 from rfl, nI_add]; exact lS y hy 3 (by decide)
      have r4 : ∀ y, q_en y = q_en x → q_lS y (some b) (nI (1 + 5 * t) + 4) = some (xs (1 + 5 * t + 4)) := fun y hy => by rw [show (4 : Int32) = nI 4 from rfl, nI_add]; exact lS y hy 4 (by decide)
      have nx : ∀ (y z : q_S) (T' : tT), cFr x y → gI y A T' (100000 * t + 100000) → q_sz y ≤ q_sz x + 1000 → q_sl y + 2000 * tN T 23 ≤ q_sl x + 10000 + 2000 * tN T' 23 → tM z m ad T' → tFr y z → gO sz (jf_La_law_L28 mm z (some b) (some (A 0)) (some m) (nI (1 + 5 * (t + 1)))) := fun y z T' f1 f2 f3 f4 f5 f6 => ih (t + 1) z T' (lwS_n H f1 f2 f3 f4 f5 f6) ht1 (by omega)
      rw [r0, Option.bind_some, ei]
      generalize xs (1 + 5 * t) &&& 31 = k
      by_cases h100 : k = 0
      · rw [if_pos h100]
        rw [r1 x rfl, Option.bind_some, r2 x rfl, Option.bind_some, y_av hA, Option.bind_some]
        obtain ⟨y, T', r, e1, e2, fr, g, d1, d2⟩ := g_extend hG hE (xs (1 + 5 * t + 1)) (xs (1 + 5 * t + 2))
        have ey := fr.2.2.2.1
        have hM1 := hM.fr fr
        obtain ⟨z, g1, g2, g3⟩ := ts_Mo_extend hM1 e2
        refine st_eq e1 ?_
        dsimp only
        rw [r1 y ey, Option.bind_some, r2 y ey, Option.bind_some, y_av hM1.1, Option.bind_some]
        refine st_eq g1 ?_
        dsimp only
        rw [if_pos rfl]
        exact nx y z T' fr g d1 d2 g2 g3
      rw [if_neg h100]
      by_cases h101 : k = 1
      · rw [if_pos h101]
        rw [r1 x rfl, Option.bind_some, r2 x rfl, Option.bind_some, r3 x rfl, Option.bind_some, r4 x rfl, Option.bind_some, y_av hA, Option.bind_some]
        obtain ⟨y, T', r, e1, e2, fr, g, d1, d2⟩ := g_define hG hE (xs (1 + 5 * t + 1)) (xs (1 + 5 * t + 2)) (xs (1 + 5 * t + 3)) (xs (1 + 5 * t + 4))
        have ey := fr.2.2.2.1
        have hM1 := hM.fr fr
        obtain ⟨z, g1, g2, g3⟩ := ts_Mo_define hM1 e2
        refine st_eq e1 ?_
        dsimp only
        rw [r1 y ey, Option.bind_some, r2 y ey, Option.bind_some, r3 y ey, Option.bind_some, r4 y ey, Option.bind_some, y_av hM1.1, Option.bind_some]
        refine st_eq g1 ?_
        dsimp only
        rw [if_pos rfl]
        exact nx y z T' fr g d1 d2 g2 g3
      rw [if_neg h101]
      by_cases h102 : k = 2
      · rw [if_pos h102]
        rw [r1 x rfl, Option.bind_some, r2 x rfl, Option.bind_some, r3 x rfl, Option.bind_some, r4 x rfl, Option.bind_some, y_av hA, Option.bind_some]
        obtain ⟨y, T', r, e1, e2, fr, g, d1, d2⟩ := g_need hG hE (xs (1 + 5 * t + 1)) (xs (1 + 5 * t + 2)) (xs (1 + 5 * t + 3)) (xs (1 + 5 * t + 4))
        have ey := fr.2.2.2.1
        have hM1 := hM.fr fr
        obtain ⟨z, g1, g2, g3⟩ := ts_Mo_need hM1 e2
        refine st_eq e1 ?_
        dsimp only
        rw [r1 y ey, Option.bind_some, r2 y ey, Option.bind_some, r3 y ey, Option.bind_some, r4 y ey, Option.bind_some, y_av hM1.1, Option.bind_some]
        refine st_eq g1 ?_
        dsimp only
        rw [if_pos rfl]
        exact nx y z T' fr g d1 d2 g2 g3
      rw [if_neg h102]
      by_cases h103 : k = 3
      · rw [if_pos h103]
        rw [r1 x rfl, Option.bind_some, r2 x rfl, Option.bind_some, r3 x rfl, Option.bind_some, r4 x rfl, Option.bind_some, y_av hA, Option.bind_some]
        obtain ⟨y, T', r, e1, e2, fr, g, d1, d2⟩ := g_configure hG hE (xs (1 + 5 * t + 1)) (xs (1 + 5 * t + 2)) (xs (1 + 5 * t + 3)) (xs (1 + 5 * t + 4))
        have ey := fr.2.2.2.1
        have hM1 := hM.fr fr
        obtain ⟨z, g1, g2, g3⟩ := ts_Mo_configure hM1 e2
        refine st_eq e1 ?_
        dsimp only
        rw [r1 y ey, Option.bind_some, r2 y ey, Option.bind_some, r3 y ey, Option.bind_some, r4 y ey, Option.bind_some, y_av hM1.1, Option.bind_some]
        refine st_eq g1 ?_
        dsimp only
        rw [if_pos rfl]
        exact nx y z T' fr g d1 d2 g2 g3
      rw [if_neg h103]
      by_cases h104 : k = 4
      · rw [if_pos h104]
        rw [r1 x rfl, Option.bind_some, y_av hA, Option.bind_some]
        obtain ⟨y, T', r, e1, e2, fr, g, d1, d2⟩ := g_key hG hE (xs (1 + 5 * t + 1))
        have ey := fr.2.2.2.1
        have hM1 := hM.fr fr
        obtain ⟨z, g1, g2, g3⟩ := ts_Mo_key hM1 e2
        refine st_eq e1 ?_
        dsimp only
        rw [r1 y ey, Option.bind_some, y_av hM1.1, Option.bind_some]
        refine st_eq g1 ?_
        dsimp only
        rw [if_pos rfl]
        exact nx y z T' fr g d1 d2 g2 g3
      rw [if_neg h104]
      by_cases h105 : k = 5
      · rw [if_pos h105]
        rw [r1 x rfl, Option.bind_some, y_av hA, Option.bind_some]
        obtain ⟨y, T', r, e1, e2, fr, g, d1, d2⟩ := g_request hG hE (xs (1 + 5 * t + 1))
        have ey := fr.2.2.2.1
        have hM1 := hM.fr fr
        obtain ⟨z, g1, g2, g3⟩ := ts_Mo_request hM1 e2
        refine st_eq e1 ?_
        dsimp only
        rw [r1 y ey, Option.bind_some, y_av hM1.1, Option.bind_some]
        refine st_eq g1 ?_
        dsimp only
        rw [if_pos rfl]
        exact nx y z T' fr g d1 d2 g2 g3
      rw [if_neg h105]
      by_cases h106 : k = 6
      · rw [if_pos h106]
        rw [r1 x rfl, Option.bind_some, y_av hA, Option.bind_some]
        obtain ⟨y, T', r, e1, e2, fr, g, d1, d2⟩ := g_dirty hG hE (xs (1 + 5 * t + 1))
        have ey := fr.2.2.2.1
        have hM1 := hM.fr fr
        obtain ⟨z, g1, g2, g3⟩ := ts_Mo_dirty hM1 e2
        refine st_eq e1 ?_
        dsimp only
        rw [r1 y ey, Option.bind_some, y_av hM1.1, Option.bind_some]
        refine st_eq g1 ?_
        dsimp only
        rw [if_pos rfl]
        exact nx y z T' fr g d1 d2 g2 g3
      rw [if_neg h106]
      by_cases h107 : k = 7
      · rw [if_pos h107]
        rw [y_av hA, Option.bind_some]
        obtain ⟨y, T', r, e1, e2, fr, g, d1, d2⟩ := g_shutdown hG hE 
        have ey := fr.2.2.2.1
        have hM1 := hM.fr fr
        obtain ⟨z, g1, g2, g3⟩ := ts_Mo_shutdown hM1 e2
        refine st_eq e1 ?_
        dsimp only
        rw [y_av hM1.1, Option.bind_some]
        refine st_eq g1 ?_
        dsimp only
        rw [if_pos rfl]
        exact nx y z T' fr g d1 d2 g2 g3
      rw [if_neg h107]
      by_cases h108 : k = 8
      · rw [if_pos h108]
        rw [r1 x rfl, Option.bind_some, r2 x rfl, Option.bind_some, r3 x rfl, Option.bind_some, r4 x rfl, Option.bind_some, y_av hA, Option.bind_some]
        obtain ⟨y, T', r, e1, e2, fr, g, d1, d2⟩ := g_get hG hE (xs (1 + 5 * t + 1)) (xs (1 + 5 * t + 2)) (xs (1 + 5 * t + 3)) (xs (1 + 5 * t + 4))
        have ey := fr.2.2.2.1
        have hM1 := hM.fr fr
        obtain ⟨z, g1, g2, g3⟩ := ts_Mo_get hM1 e2
        refine st_eq e1 ?_
        dsimp only
        rw [r1 y ey, Option.bind_some, r2 y ey, Option.bind_some, r3 y ey, Option.bind_some, r4 y ey, Option.bind_some, y_av hM1.1, Option.bind_some]
        refine st_eq g1 ?_
        dsimp only
        rw [if_pos rfl]
        exact nx y z T' fr g d1 d2 g2 g3
      rw [if_neg h108]
      by_cases h109 : k = 9
      · rw [if_pos h109]
        rw [r1 x rfl, Option.bind_some, r2 x rfl, Option.bind_some, y_av hA, Option.bind_some]
        obtain ⟨y, T', r, e1, e2, fr, g, d1, d2⟩ := g_call hG hE (xs (1 + 5 * t + 1)) (xs (1 + 5 * t + 2))
        have ey := fr.2.2.2.1
        have hM1 := hM.fr fr
        obtain ⟨z, g1, g2, g3⟩ := ts_Mo_call hM1 e2
        refine st_eq e1 ?_
        dsimp only
        rw [r1 y ey, Option.bind_some, r2 y ey, Option.bind_some, y_av hM1.1, Option.bind_some]
        refine st_eq g1 ?_
        dsimp only
        rw [if_pos (lg_cmp_self _)]
        exact nx y z T' fr g d1 d2 g2 g3
      rw [if_neg h109]
      by_cases h110 : k = 10
      · rw [if_pos h110]
        rw [r1 x rfl, Option.bind_some, r2 x rfl, Option.bind_some, y_av hA, Option.bind_some]
        obtain ⟨y, T', r, e1, e2, fr, g, d1, d2⟩ := g_stub hG hE (xs (1 + 5 * t + 1)) (xs (1 + 5 * t + 2))
        have ey := fr.2.2.2.1
        have hM1 := hM.fr fr
        obtain ⟨z, g1, g2, g3⟩ := ts_Mo_stub hM1 e2
        refine st_eq e1 ?_
        dsimp only
        rw [r1 y ey, Option.bind_some, r2 y ey, Option.bind_some, y_av hM1.1, Option.bind_some]
        refine st_eq g1 ?_
        dsimp only
        rw [if_pos rfl]
        exact nx y z T' fr g d1 d2 g2 g3
      rw [if_neg h110]
      by_cases h111 : k = 11
      · rw [if_pos h111]
        rw [r1 x rfl, Option.bind_some, r2 x rfl, Option.bind_some, y_av hA, Option.bind_some]
        obtain ⟨y, T', r, e1, e2, fr, g, d1, d2⟩ := g_recorded hG hE (xs (1 + 5 * t + 1)) (xs (1 + 5 * t + 2))
        have ey := fr.2.2.2.1
        have hM1 := hM.fr fr
        obtain ⟨z, g1, g2, g3⟩ := ts_Mo_recorded hM1 e2
        refine st_eq e1 ?_
        dsimp only
        rw [r1 y ey, Option.bind_some, r2 y ey, Option.bind_some, y_av hM1.1, Option.bind_some]
        refine st_eq g1 ?_
        dsimp only
        rw [if_pos (lg_cmp_self _)]
        exact nx y z T' fr g d1 d2 g2 g3
      rw [if_neg h111]
      by_cases h112 : k = 12
      · rw [if_pos h112]
        rw [r1 x rfl, Option.bind_some, y_av hA, Option.bind_some]
        obtain ⟨y, T', r, e1, e2, fr, g, d1, d2⟩ := g_reset hG hE (xs (1 + 5 * t + 1))
        have ey := fr.2.2.2.1
        have hM1 := hM.fr fr
        obtain ⟨z, g1, g2, g3⟩ := ts_Mo_reset hM1 e2
        refine st_eq e1 ?_
        dsimp only
        rw [r1 y ey, Option.bind_some, y_av hM1.1, Option.bind_some]
        refine st_eq g1 ?_
        dsimp only
        rw [if_pos rfl]
        exact nx y z T' fr g d1 d2 g2 g3
      rw [if_neg h112]
      by_cases h113 : k = 13
      · rw [if_pos h113]
        rw [r1 x rfl, Option.bind_some, r2 x rfl, Option.bind_some, y_av hA, Option.bind_some]
        obtain ⟨y, T', r, e1, e2, fr, g, d1, d2⟩ := g_wired hG hE (xs (1 + 5 * t + 1)) (xs (1 + 5 * t + 2))
        have ey := fr.2.2.2.1
        have hM1 := hM.fr fr
        obtain ⟨z, g1, g2, g3⟩ := ts_Mo_wired hM1 e2
        refine st_eq e1 ?_
        dsimp only
        rw [r1 y ey, Option.bind_some, r2 y ey, Option.bind_some, y_av hM1.1, Option.bind_some]
        refine st_eq g1 ?_
        dsimp only
        rw [if_pos rfl]
        exact nx y z T' fr g d1 d2 g2 g3
      rw [if_neg h113]
      by_cases h114 : k = 14
      · rw [if_pos h114]
        rw [r1 x rfl, Option.bind_some, y_av hA, Option.bind_some]
        obtain ⟨y, T', r, e1, e2, fr, g, d1, d2⟩ := g_definition hG hE (xs (1 + 5 * t + 1))
        have ey := fr.2.2.2.1
        have hM1 := hM.fr fr
        obtain ⟨z, g1, g2, g3⟩ := ts_Mo_definition hM1 e2
        refine st_eq e1 ?_
        dsimp only
        rw [r1 y ey, Option.bind_some, y_av hM1.1, Option.bind_some]
        refine st_eq g1 ?_
        dsimp only
        rw [if_pos rfl]
        exact nx y z T' fr g d1 d2 g2 g3
      rw [if_neg h114]
      by_cases h115 : k = 15
      · rw [if_pos h115]
        rw [r1 x rfl, Option.bind_some, y_av hA, Option.bind_some]
        obtain ⟨y, T', r, e1, e2, fr, g, d1, d2⟩ := g_cached hG hE (xs (1 + 5 * t + 1))
        have ey := fr.2.2.2.1
        have hM1 := hM.fr fr
        obtain ⟨z, g1, g2, g3⟩ := ts_Mo_cached hM1 e2
        refine st_eq e1 ?_
        dsimp only
        rw [r1 y ey, Option.bind_some, y_av hM1.1, Option.bind_some]
        refine st_eq g1 ?_
        dsimp only
        rw [if_pos rfl]
        exact nx y z T' fr g d1 d2 g2 g3
      rw [if_neg h115]
      by_cases h116 : k = 16
      · rw [if_pos h116]
        rw [r1 x rfl, Option.bind_some, y_av hA, Option.bind_some]
        obtain ⟨y, T', r, e1, e2, fr, g, d1, d2⟩ := g_failures hG hE (xs (1 + 5 * t + 1))
        have ey := fr.2.2.2.1
        have hM1 := hM.fr fr
        obtain ⟨z, g1, g2, g3⟩ := ts_Mo_failures hM1 e2
        refine st_eq e1 ?_
        dsimp only
        rw [r1 y ey, Option.bind_some, y_av hM1.1, Option.bind_some]
        refine st_eq g1 ?_
        dsimp only
        rw [if_pos rfl]
        exact nx y z T' fr g d1 d2 g2 g3
      rw [if_neg h116]
      by_cases h117 : k = 17
      · rw [if_pos h117]
        rw [y_av hA, Option.bind_some]
        obtain ⟨y, T', r, e1, e2, fr, g, d1, d2⟩ := g_events hG hE 
        have ey := fr.2.2.2.1
        have hM1 := hM.fr fr
        obtain ⟨z, g1, g2, g3⟩ := ts_Mo_events hM1 e2
        refine st_eq e1 ?_
        dsimp only
        rw [y_av hM1.1, Option.bind_some]
        refine st_eq g1 ?_
        dsimp only
        rw [if_pos rfl]
        exact nx y z T' fr g d1 d2 g2 g3
      rw [if_neg h117]
      by_cases h118 : k = 18
      · rw [if_pos h118]
        rw [r1 x rfl, Option.bind_some, y_av hA, Option.bind_some]
        obtain ⟨y, T', r, e1, e2, fr, g, d1, d2⟩ := g_event hG hE (xs (1 + 5 * t + 1))
        have ey := fr.2.2.2.1
        have hM1 := hM.fr fr
        obtain ⟨z, g1, g2, g3⟩ := ts_Mo_event hM1 e2
        refine st_eq e1 ?_
        dsimp only
        rw [r1 y ey, Option.bind_some, y_av hM1.1, Option.bind_some]
        refine st_eq g1 ?_
        dsimp only
        rw [if_pos rfl]
        exact nx y z T' fr g d1 d2 g2 g3
      rw [if_neg h118]
      exact nx x x T (cFr.rf x) (hG.mono (by omega) hE) (by omega) (by omega) hM (tFr.rf x)
end LW
set_option maxHeartbeats 4000000 in
set_option maxRecDepth 20000 in
theorem goalN : q_goal 2561 := by
  intro sz z0 mo b L xs hL hz hb
  generalize hx : q_x0 sz z0 mo b L xs = x
  have he : q_en x = (z0, mo, b, L, xs) := by rw [← hx]; rfl
  have hs : q_sz x = sz := by rw [← hx]; rfl
  have hl : q_sl x = 0 := by rw [← hx]; rfl
  have W0 : wf x := by
    rw [← hx]
    exact ⟨hz, rfl, fun _ _ _ => ⟨rfl, rfl⟩, fun _ _ _ => rfl⟩
  show gO sz (jf_La_law x (some b))
  clear hx
  unfold jf_La_law
  refine st_nO (G := gO sz) (fun x1 u1 => ?_)
  have W1 := wf_uN W0 u1
  have en1 : q_en x1 = (z0, mo, b, L, xs) := u1.2.2.2.2.1.trans he
  obtain ⟨c, hc⟩ : ∃ c : Int32, c = if L = 0 then 0 else xs 0 := ⟨_, rfl⟩
  have cl : ∀ y, q_en y = (z0, mo, b, L, xs) → jf_La_cell y (some b) 0 = some (y, c) := fun y hy => by rw [hc]; exact cell_eq hy (by omega)
  refine st_eq (cl x1 en1) ?_
  dsimp only
  obtain ⟨y, e1, A, hA, hcS, hjL, W2, en2, har, hsz, hsl, hd⟩ := C_init (x := x1) (B := q_sz x) (c := c) W1 (by rw [u1.1]; exact Nat.lt_succ_self _) (by rw [u1.2.2.2.2.2.1, if_pos ⟨rfl, rfl⟩]) (by rw [u1.2.2.2.2.2.2, if_pos ⟨rfl, rfl⟩]; rfl)
  refine st_eq e1 ?_
  dsimp only
  refine st_nO (G := gO sz) (fun x3 u3 => ?_)
  have W3 := wf_uN W2 u3
  have en3 : q_en x3 = (z0, mo, b, L, xs) := (u3.2.2.2.2.1.trans en2).trans en1
  refine st_eq (cl x3 en3) ?_
  dsimp only
  obtain ⟨z, e2, hM, hal, en4, har4, hfd, hai, hsz4, hsl4, W4⟩ := M_init (x := x3) (m := q_sz y) (c := c) W3 (by rw [u3.2.2.2.2.2.1, if_pos ⟨rfl, rfl⟩]) (fun k hk => by rw [u3.2.2.2.2.2.2, if_pos ⟨rfl, rfl⟩]; exact mo_11 k hk)
  refine st_eq e2 ?_
  dsimp only
  have a3 : ∀ d, d ≠ 11 → q_al x3 d = q_al y d := fun d hd => by funext v; rw [u3.2.2.2.2.2.1, if_neg (fun t => hd t.1)]
  have f3 : ∀ d, d ≠ 11 → q_fd x3 d = q_fd y d := fun d hd => by funext j v; rw [u3.2.2.2.2.2.2, if_neg (fun t => hd t.1)]
  obtain ⟨n, hn1, hn2⟩ := cap_n c
  have G0 : gI z A (T0 (cCap c)) 0 := by
    refine gI_0 (n := n) (hcS.fr (fun d hd => by rw [hal, a3 d hd]) (fun d hd => by rw [hfd d hd, f3 d hd]) (fun t ht => by rw [hai t ht, u3.2.2.1])) (jL_cls hjL (fun d v hv => ?_) (by rw [hfd 2 (by decide), f3 2 (by decide)]) (by rw [har4, u3.2.2.2.1]) (by rw [en4, u3.2.2.2.2.1])) W4 hn1 hn2 hd
    rw [hal]; exact uN_al u3 hv
  have ez : q_en z = (z0, mo, b, L, xs) := en4.trans en3
  have z1 : q_sz z ≤ sz + 1000 := by rw [hsz4, u3.1, hsz, u1.1, hs]; omega
  have z2 : q_sl z ≤ 100000 := by
    have q1 : q_sl x1 = 6 := by rw [u1.2.1, hl]; rfl
    have q3 : q_sl x3 = q_sl y + 40 := by rw [u3.2.1]; rfl
    omega
  rw [← hA]
  have H0 : lwS A (tad (q_sz x3)) (q_sz y) sz z0 mo b L xs 0 z (T0 (cCap c)) := ⟨G0, hM, ez, by omega, by omega⟩
  exact g_loop hL lpK 0 z (T0 (cCap c)) H0 (by omega) (by decide)

