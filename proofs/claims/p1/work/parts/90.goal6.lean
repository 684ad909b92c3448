/-! The law on one call. -/
theorem cS.fr {x y : q_S} {A : Nat → Nat} {dn cap tot : Int32} {kn rg : Nat → Int32} (h : cS x A dn cap tot kn rg) (hal : ∀ c, c ≠ 11 → q_al y c = q_al x c) (hf : ∀ c, c ≠ 11 → q_fd y c = q_fd x c) (hi : ∀ t, t < 10 → q_ai y t = q_ai x t) : cS y A dn cap tot kn rg := by
  unfold cS at h ⊢
  rw [hal 0 (by decide), hal 1 (by decide), hal 3 (by decide), hal 4 (by decide), hal 5 (by decide), hf 0 (by decide), hf 1 (by decide), hf 3 (by decide), hf 4 (by decide), hf 5 (by decide), hi 1 (by decide), hi 3 (by decide)]
  exact h
theorem lS_eq {y : q_S} {z0 mo b L : Nat} {xs : Nat → Int32} (he : q_en y = (z0, mo, b, L, xs)) {i : Nat} (hi : i < L) (hL : L < 2 ^ 31) : q_lS y (some b) (nI i) = some (xs i) := by
  have e1 : q_sb y = b := by unfold q_sb; rw [he]
  have e2 : q_sL y = L := by unfold q_sL; rw [he]
  have e3 : q_sx y = xs := by unfold q_sx; rw [he]
  unfold q_lS
  rw [e1, e2, e3, if_pos ⟨rfl, nI_in hi hL⟩, nI_clamp (by omega)]
theorem lenS_eq {y : q_S} {z0 mo b L : Nat} {xs : Nat → Int32} (he : q_en y = (z0, mo, b, L, xs)) : q_lenS y (some b) = some (nI L) := by
  have e1 : q_sb y = b := by unfold q_sb; rw [he]
  have e2 : q_sL y = L := by unfold q_sL; rw [he]
  unfold q_lenS
  rw [e1, e2, if_pos rfl]; rfl
theorem cell_eq {y : q_S} {z0 mo b L : Nat} {xs : Nat → Int32} (he : q_en y = (z0, mo, b, L, xs)) (hL : L < 2 ^ 31) : jf_La_cell y (some b) 0 = some (y, if L = 0 then 0 else xs 0) := by
  unfold jf_La_cell
  rw [lenS_eq he, Option.bind_some]
  by_cases h : L = 0
  · rw [if_pos h, if_pos (by rw [h]; decide)]
  · rw [if_neg h, if_neg (nI_nle (by omega) hL), show q_lS y (some b) 0 = some (xs 0) from lS_eq he (i := 0) (Nat.pos_of_ne_zero h) hL]; rfl
theorem lg_cmp_self (v : Int64) : lg_cmp v v = 0 := by
  unfold lg_cmp
  rw [if_neg (Int64.lt_irrefl), if_pos rfl]
theorem mo_11 (k : Nat) (hk : tik k = true) : jdv_11.getD k .null = .int 0 := by
  have hk' : k ∈ [0, 2, 11, 16, 21, 22, 23, 32, 37, 38] := by simpa [tik] using hk
  simp only [List.mem_cons, List.not_mem_nil, or_false] at hk'
  rcases hk' with rfl | rfl | rfl | rfl | rfl | rfl | rfl | rfl | rfl | rfl <;> rfl
def gO (sz : Nat) (o : Option (q_S × Int32)) : Prop := ∃ p : q_S × Int32, o = some p ∧ p.2 = 1 ∧ q_sz p.1 ≤ sz + 600000 ∧ q_sl p.1 ≤ 7302250
theorem g_last {z : q_S} {sz z0 mo b : Nat} {xs : Nat → Int32} {l1 l2 : Option Nat} (he : q_en z = (z0, mo, b, 6, xs)) (h1 : q_sz z ≤ sz + 600000) (h2 : q_sl z ≤ 7302250) : gO sz (jf_La_law_L28 999 z (some b) l1 l2 (1 + 5)) := by
  rw [show jf_La_law_L28 999 z (some b) l1 l2 (1 + 5) = jf_La_law_B28 (jf_La_law_L28 998) z (some b) l1 l2 (1 + 5) from rfl]
  unfold jf_La_law_B28
  rw [lenS_eq he, Option.bind_some, if_pos (by decide)]
  exact ⟨(z, 1), rfl, rfl, h1, h2⟩
set_option maxHeartbeats 4000000 in
theorem g_one {x : q_S} {A ad : Nat → Nat} {cap : Int32} {m sz z0 mo b : Nat} {xs : Nat → Int32} (hS : fS x A cap) (hM : tM x m ad (T0 cap)) (he : q_en x = (z0, mo, b, 6, xs)) (h1 : q_sz x ≤ sz + 1000) (h2 : q_sl x ≤ 100000) : gO sz (jf_La_law_B28 (jf_La_law_L28 999) x (some b) (some (A 0)) (some m) 1) := by
  have hA : q_al x 0 (A 0) = true := hS.1.1.1
  have lS : ∀ (y : q_S), q_en y = q_en x → ∀ i, i < 6 → q_lS y (some b) (nI i) = some (xs i) := fun y hy i hi => lS_eq (hy.trans he) hi (by decide)
  have s1 : q_lS x (some b) 1 = some (xs 1) := lS x rfl 1 (by decide)
  have r2 : ∀ y, q_en y = q_en x → q_lS y (some b) (1 + 1) = some (xs 2) := fun y hy => lS y hy 2 (by decide)
  have r3 : ∀ y, q_en y = q_en x → q_lS y (some b) (1 + 2) = some (xs 3) := fun y hy => lS y hy 3 (by decide)
  have r4 : ∀ y, q_en y = q_en x → q_lS y (some b) (1 + 3) = some (xs 4) := fun y hy => lS y hy 4 (by decide)
  have r5 : ∀ y, q_en y = q_en x → q_lS y (some b) (1 + 4) = some (xs 5) := fun y hy => lS y hy 5 (by decide)
  unfold jf_La_law_B28
  rw [lenS_eq he, Option.bind_some, if_neg (by decide), s1, Option.bind_some]
  generalize xs 1 &&& 31 = k
  by_cases h100 : k = 0
  · rw [if_pos h100]
    rw [r2 x rfl, Option.bind_some, r3 x rfl, Option.bind_some, y_av hA, Option.bind_some]
    obtain ⟨y, T', r, e1, e2, fr, c1, c2⟩ := f_extend hS (xs 2) (xs 3)
    have ey := fr.2.2.2.1
    have hM1 := hM.fr fr
    obtain ⟨z, g1, g2, g3⟩ := ts_Mo_extend hM1 e2
    refine st_eq e1 ?_
    dsimp only
    rw [r2 y ey, Option.bind_some, r3 y ey, Option.bind_some, y_av hM1.1, Option.bind_some]
    refine st_eq g1 ?_
    dsimp only
    rw [if_pos rfl]
    exact g_last (by rw [g3.2.2.2.2.2.1, ey]; exact he) (by rw [g3.1]; omega) (by rw [g3.2.1]; omega)
  rw [if_neg h100]
  by_cases h101 : k = 1
  · rw [if_pos h101]
    rw [r2 x rfl, Option.bind_some, r3 x rfl, Option.bind_some, r4 x rfl, Option.bind_some, r5 x rfl, Option.bind_some, y_av hA, Option.bind_some]
    obtain ⟨y, T', r, e1, e2, fr, c1, c2⟩ := f_define hS (xs 2) (xs 3) (xs 4) (xs 5)
    have ey := fr.2.2.2.1
    have hM1 := hM.fr fr
    obtain ⟨z, g1, g2, g3⟩ := ts_Mo_define hM1 e2
    refine st_eq e1 ?_
    dsimp only
    rw [r2 y ey, Option.bind_some, r3 y ey, Option.bind_some, r4 y ey, Option.bind_some, r5 y ey, Option.bind_some, y_av hM1.1, Option.bind_some]
    refine st_eq g1 ?_
    dsimp only
    rw [if_pos rfl]
    exact g_last (by rw [g3.2.2.2.2.2.1, ey]; exact he) (by rw [g3.1]; omega) (by rw [g3.2.1]; omega)
  rw [if_neg h101]
  by_cases h102 : k = 2
  · rw [if_pos h102]
    rw [r2 x rfl, Option.bind_some, r3 x rfl, Option.bind_some, r4 x rfl, Option.bind_some, r5 x rfl, Option.bind_some, y_av hA, Option.bind_some]
    obtain ⟨y, T', r, e1, e2, fr, c1, c2⟩ := f_need hS (xs 2) (xs 3) (xs 4) (xs 5)
    have ey := fr.2.2.2.1
    have hM1 := hM.fr fr
    obtain ⟨z, g1, g2, g3⟩ := ts_Mo_need hM1 e2
    refine st_eq e1 ?_
    dsimp only
    rw [r2 y ey, Option.bind_some, r3 y ey, Option.bind_some, r4 y ey, Option.bind_some, r5 y ey, Option.bind_some, y_av hM1.1, Option.bind_some]
    refine st_eq g1 ?_
    dsimp only
    rw [if_pos rfl]
    exact g_last (by rw [g3.2.2.2.2.2.1, ey]; exact he) (by rw [g3.1]; omega) (by rw [g3.2.1]; omega)
  rw [if_neg h102]
  by_cases h103 : k = 3
  · rw [if_pos h103]
    rw [r2 x rfl, Option.bind_some, r3 x rfl, Option.bind_some, r4 x rfl, Option.bind_some, r5 x rfl, Option.bind_some, y_av hA, Option.bind_some]
    obtain ⟨y, T', r, e1, e2, fr, c1, c2⟩ := f_configure hS (xs 2) (xs 3) (xs 4) (xs 5)
    have ey := fr.2.2.2.1
    have hM1 := hM.fr fr
    obtain ⟨z, g1, g2, g3⟩ := ts_Mo_configure hM1 e2
    refine st_eq e1 ?_
    dsimp only
    rw [r2 y ey, Option.bind_some, r3 y ey, Option.bind_some, r4 y ey, Option.bind_some, r5 y ey, Option.bind_some, y_av hM1.1, Option.bind_some]
    refine st_eq g1 ?_
    dsimp only
    rw [if_pos rfl]
    exact g_last (by rw [g3.2.2.2.2.2.1, ey]; exact he) (by rw [g3.1]; omega) (by rw [g3.2.1]; omega)
  rw [if_neg h103]
  by_cases h104 : k = 4
  · rw [if_pos h104]
    rw [r2 x rfl, Option.bind_some, y_av hA, Option.bind_some]
    obtain ⟨y, T', r, e1, e2, fr, c1, c2⟩ := f_key hS (xs 2)
    have ey := fr.2.2.2.1
    have hM1 := hM.fr fr
    obtain ⟨z, g1, g2, g3⟩ := ts_Mo_key hM1 e2
    refine st_eq e1 ?_
    dsimp only
    rw [r2 y ey, Option.bind_some, y_av hM1.1, Option.bind_some]
    refine st_eq g1 ?_
    dsimp only
    rw [if_pos rfl]
    exact g_last (by rw [g3.2.2.2.2.2.1, ey]; exact he) (by rw [g3.1]; omega) (by rw [g3.2.1]; omega)
  rw [if_neg h104]
  by_cases h105 : k = 5
  · rw [if_pos h105]
    rw [r2 x rfl, Option.bind_some, y_av hA, Option.bind_some]
    obtain ⟨y, T', r, e1, e2, fr, c1, c2⟩ := f_request hS (xs 2)
    have ey := fr.2.2.2.1
    have hM1 := hM.fr fr
    obtain ⟨z, g1, g2, g3⟩ := ts_Mo_request hM1 e2
    refine st_eq e1 ?_
    dsimp only
    rw [r2 y ey, Option.bind_some, y_av hM1.1, Option.bind_some]
    refine st_eq g1 ?_
    dsimp only
    rw [if_pos rfl]
    exact g_last (by rw [g3.2.2.2.2.2.1, ey]; exact he) (by rw [g3.1]; omega) (by rw [g3.2.1]; omega)
  rw [if_neg h105]
  by_cases h106 : k = 6
  · rw [if_pos h106]
    rw [r2 x rfl, Option.bind_some, y_av hA, Option.bind_some]
    obtain ⟨y, T', r, e1, e2, fr, c1, c2⟩ := f_dirty hS (xs 2)
    have ey := fr.2.2.2.1
    have hM1 := hM.fr fr
    obtain ⟨z, g1, g2, g3⟩ := ts_Mo_dirty hM1 e2
    refine st_eq e1 ?_
    dsimp only
    rw [r2 y ey, Option.bind_some, y_av hM1.1, Option.bind_some]
    refine st_eq g1 ?_
    dsimp only
    rw [if_pos rfl]
    exact g_last (by rw [g3.2.2.2.2.2.1, ey]; exact he) (by rw [g3.1]; omega) (by rw [g3.2.1]; omega)
  rw [if_neg h106]
  by_cases h107 : k = 7
  · rw [if_pos h107]
    rw [y_av hA, Option.bind_some]
    obtain ⟨y, T', r, e1, e2, fr, c1, c2⟩ := f_shutdown hS 
    have ey := fr.2.2.2.1
    have hM1 := hM.fr fr
    obtain ⟨z, g1, g2, g3⟩ := ts_Mo_shutdown hM1 e2
    refine st_eq e1 ?_
    dsimp only
    rw [y_av hM1.1, Option.bind_some]
    refine st_eq g1 ?_
    dsimp only
    rw [if_pos rfl]
    exact g_last (by rw [g3.2.2.2.2.2.1, ey]; exact he) (by rw [g3.1]; omega) (by rw [g3.2.1]; omega)
  rw [if_neg h107]
  by_cases h108 : k = 8
  · rw [if_pos h108]
    rw [r2 x rfl, Option.bind_some, r3 x rfl, Option.bind_some, r4 x rfl, Option.bind_some, r5 x rfl, Option.bind_some, y_av hA, Option.bind_some]
    obtain ⟨y, T', r, e1, e2, fr, c1, c2⟩ := f_get hS (xs 2) (xs 3) (xs 4) (xs 5)
    have ey := fr.2.2.2.1
    have hM1 := hM.fr fr
    obtain ⟨z, g1, g2, g3⟩ := ts_Mo_get hM1 e2
    refine st_eq e1 ?_
    dsimp only
    rw [r2 y ey, Option.bind_some, r3 y ey, Option.bind_some, r4 y ey, Option.bind_some, r5 y ey, Option.bind_some, y_av hM1.1, Option.bind_some]
    refine st_eq g1 ?_
    dsimp only
    rw [if_pos rfl]
    exact g_last (by rw [g3.2.2.2.2.2.1, ey]; exact he) (by rw [g3.1]; omega) (by rw [g3.2.1]; omega)
  rw [if_neg h108]
  by_cases h109 : k = 9
  · rw [if_pos h109]
    rw [r2 x rfl, Option.bind_some, r3 x rfl, Option.bind_some, y_av hA, Option.bind_some]
    obtain ⟨y, T', r, e1, e2, fr, c1, c2⟩ := f_call hS (xs 2) (xs 3)
    have ey := fr.2.2.2.1
    have hM1 := hM.fr fr
    obtain ⟨z, g1, g2, g3⟩ := ts_Mo_call hM1 e2
    refine st_eq e1 ?_
    dsimp only
    rw [r2 y ey, Option.bind_some, r3 y ey, Option.bind_some, y_av hM1.1, Option.bind_some]
    refine st_eq g1 ?_
    dsimp only
    rw [if_pos (lg_cmp_self _)]
    exact g_last (by rw [g3.2.2.2.2.2.1, ey]; exact he) (by rw [g3.1]; omega) (by rw [g3.2.1]; omega)
  rw [if_neg h109]
  by_cases h110 : k = 10
  · rw [if_pos h110]
    rw [r2 x rfl, Option.bind_some, r3 x rfl, Option.bind_some, y_av hA, Option.bind_some]
    obtain ⟨y, T', r, e1, e2, fr, c1, c2⟩ := f_stub hS (xs 2) (xs 3)
    have ey := fr.2.2.2.1
    have hM1 := hM.fr fr
    obtain ⟨z, g1, g2, g3⟩ := ts_Mo_stub hM1 e2
    refine st_eq e1 ?_
    dsimp only
    rw [r2 y ey, Option.bind_some, r3 y ey, Option.bind_some, y_av hM1.1, Option.bind_some]
    refine st_eq g1 ?_
    dsimp only
    rw [if_pos rfl]
    exact g_last (by rw [g3.2.2.2.2.2.1, ey]; exact he) (by rw [g3.1]; omega) (by rw [g3.2.1]; omega)
  rw [if_neg h110]
  by_cases h111 : k = 11
  · rw [if_pos h111]
    rw [r2 x rfl, Option.bind_some, r3 x rfl, Option.bind_some, y_av hA, Option.bind_some]
    obtain ⟨y, T', r, e1, e2, fr, c1, c2⟩ := f_recorded hS (xs 2) (xs 3)
    have ey := fr.2.2.2.1
    have hM1 := hM.fr fr
    obtain ⟨z, g1, g2, g3⟩ := ts_Mo_recorded hM1 e2
    refine st_eq e1 ?_
    dsimp only
    rw [r2 y ey, Option.bind_some, r3 y ey, Option.bind_some, y_av hM1.1, Option.bind_some]
    refine st_eq g1 ?_
    dsimp only
    rw [if_pos (lg_cmp_self _)]
    exact g_last (by rw [g3.2.2.2.2.2.1, ey]; exact he) (by rw [g3.1]; omega) (by rw [g3.2.1]; omega)
  rw [if_neg h111]
  by_cases h112 : k = 12
  · rw [if_pos h112]
    rw [r2 x rfl, Option.bind_some, y_av hA, Option.bind_some]
    obtain ⟨y, T', r, e1, e2, fr, c1, c2⟩ := f_reset hS (xs 2)
    have ey := fr.2.2.2.1
    have hM1 := hM.fr fr
    obtain ⟨z, g1, g2, g3⟩ := ts_Mo_reset hM1 e2
    refine st_eq e1 ?_
    dsimp only
    rw [r2 y ey, Option.bind_some, y_av hM1.1, Option.bind_some]
    refine st_eq g1 ?_
    dsimp only
    rw [if_pos rfl]
    exact g_last (by rw [g3.2.2.2.2.2.1, ey]; exact he) (by rw [g3.1]; omega) (by rw [g3.2.1]; omega)
  rw [if_neg h112]
  by_cases h113 : k = 13
  · rw [if_pos h113]
    rw [r2 x rfl, Option.bind_some, r3 x rfl, Option.bind_some, y_av hA, Option.bind_some]
    obtain ⟨y, T', r, e1, e2, fr, c1, c2⟩ := f_wired hS (xs 2) (xs 3)
    have ey := fr.2.2.2.1
    have hM1 := hM.fr fr
    obtain ⟨z, g1, g2, g3⟩ := ts_Mo_wired hM1 e2
    refine st_eq e1 ?_
    dsimp only
    rw [r2 y ey, Option.bind_some, r3 y ey, Option.bind_some, y_av hM1.1, Option.bind_some]
    refine st_eq g1 ?_
    dsimp only
    rw [if_pos rfl]
    exact g_last (by rw [g3.2.2.2.2.2.1, ey]; exact he) (by rw [g3.1]; omega) (by rw [g3.2.1]; omega)
  rw [if_neg h113]
  by_cases h114 : k = 14
  · rw [if_pos h114]
    rw [r2 x rfl, Option.bind_some, y_av hA, Option.bind_some]
    obtain ⟨y, T', r, e1, e2, fr, c1, c2⟩ := f_definition hS (xs 2)
    have ey := fr.2.2.2.1
    have hM1 := hM.fr fr
    obtain ⟨z, g1, g2, g3⟩ := ts_Mo_definition hM1 e2
    refine st_eq e1 ?_
    dsimp only
    rw [r2 y ey, Option.bind_some, y_av hM1.1, Option.bind_some]
    refine st_eq g1 ?_
    dsimp only
    rw [if_pos rfl]
    exact g_last (by rw [g3.2.2.2.2.2.1, ey]; exact he) (by rw [g3.1]; omega) (by rw [g3.2.1]; omega)
  rw [if_neg h114]
  by_cases h115 : k = 15
  · rw [if_pos h115]
    rw [r2 x rfl, Option.bind_some, y_av hA, Option.bind_some]
    obtain ⟨y, T', r, e1, e2, fr, c1, c2⟩ := f_cached hS (xs 2)
    have ey := fr.2.2.2.1
    have hM1 := hM.fr fr
    obtain ⟨z, g1, g2, g3⟩ := ts_Mo_cached hM1 e2
    refine st_eq e1 ?_
    dsimp only
    rw [r2 y ey, Option.bind_some, y_av hM1.1, Option.bind_some]
    refine st_eq g1 ?_
    dsimp only
    rw [if_pos rfl]
    exact g_last (by rw [g3.2.2.2.2.2.1, ey]; exact he) (by rw [g3.1]; omega) (by rw [g3.2.1]; omega)
  rw [if_neg h115]
  by_cases h116 : k = 16
  · rw [if_pos h116]
    rw [r2 x rfl, Option.bind_some, y_av hA, Option.bind_some]
    obtain ⟨y, T', r, e1, e2, fr, c1, c2⟩ := f_failures hS (xs 2)
    have ey := fr.2.2.2.1
    have hM1 := hM.fr fr
    obtain ⟨z, g1, g2, g3⟩ := ts_Mo_failures hM1 e2
    refine st_eq e1 ?_
    dsimp only
    rw [r2 y ey, Option.bind_some, y_av hM1.1, Option.bind_some]
    refine st_eq g1 ?_
    dsimp only
    rw [if_pos rfl]
    exact g_last (by rw [g3.2.2.2.2.2.1, ey]; exact he) (by rw [g3.1]; omega) (by rw [g3.2.1]; omega)
  rw [if_neg h116]
  by_cases h117 : k = 17
  · rw [if_pos h117]
    rw [y_av hA, Option.bind_some]
    obtain ⟨y, T', r, e1, e2, fr, c1, c2⟩ := f_events hS 
    have ey := fr.2.2.2.1
    have hM1 := hM.fr fr
    obtain ⟨z, g1, g2, g3⟩ := ts_Mo_events hM1 e2
    refine st_eq e1 ?_
    dsimp only
    rw [y_av hM1.1, Option.bind_some]
    refine st_eq g1 ?_
    dsimp only
    rw [if_pos rfl]
    exact g_last (by rw [g3.2.2.2.2.2.1, ey]; exact he) (by rw [g3.1]; omega) (by rw [g3.2.1]; omega)
  rw [if_neg h117]
  by_cases h118 : k = 18
  · rw [if_pos h118]
    rw [r2 x rfl, Option.bind_some, y_av hA, Option.bind_some]
    obtain ⟨y, T', r, e1, e2, fr, c1, c2⟩ := f_event hS (xs 2)
    have ey := fr.2.2.2.1
    have hM1 := hM.fr fr
    obtain ⟨z, g1, g2, g3⟩ := ts_Mo_event hM1 e2
    refine st_eq e1 ?_
    dsimp only
    rw [r2 y ey, Option.bind_some, y_av hM1.1, Option.bind_some]
    refine st_eq g1 ?_
    dsimp only
    rw [if_pos rfl]
    exact g_last (by rw [g3.2.2.2.2.2.1, ey]; exact he) (by rw [g3.1]; omega) (by rw [g3.2.1]; omega)
  rw [if_neg h118]
  exact g_last he (by omega) (by omega)
set_option maxHeartbeats 4000000 in
theorem goal6 : q_goal 6 := by
  intro sz z0 mo b L xs hL hz hb
  generalize hx : q_x0 sz z0 mo b L xs = x
  have he : q_en x = (z0, mo, b, L, xs) := by rw [← hx]; rfl
  have hs : q_sz x = sz := by rw [← hx]; rfl
  have hl : q_sl x = 0 := by rw [← hx]; rfl
  have W0 : wf x := by
    rw [← hx]
    exact ⟨hz, rfl, fun _ _ _ => ⟨rfl, rfl⟩, fun _ _ _ => rfl⟩
  show gO sz (jf_La_law x (some b))
  clear hx
  unfold jf_La_law
  refine st_nO (G := gO sz) (fun x1 u1 => ?_)
  have W1 := wf_uN W0 u1
  have en1 : q_en x1 = (z0, mo, b, L, xs) := u1.2.2.2.2.1.trans he
  obtain ⟨c, hc⟩ : ∃ c : Int32, c = if L = 0 then 0 else xs 0 := ⟨_, rfl⟩
  have cl : ∀ y, q_en y = (z0, mo, b, L, xs) → jf_La_cell y (some b) 0 = some (y, c) := fun y hy => by rw [hc]; exact cell_eq hy (by omega)
  refine st_eq (cl x1 en1) ?_
  dsimp only
  obtain ⟨y, e1, A, hA, hcS, hjL, W2, en2, har, hsz, hsl⟩ := C_init (x := x1) (B := q_sz x) (c := c) W1 (by rw [u1.1]; exact Nat.lt_succ_self _) (by rw [u1.2.2.2.2.2.1, if_pos ⟨rfl, rfl⟩]) (by rw [u1.2.2.2.2.2.2, if_pos ⟨rfl, rfl⟩]; rfl)
  refine st_eq e1 ?_
  dsimp only
  refine st_nO (G := gO sz) (fun x3 u3 => ?_)
  have W3 := wf_uN W2 u3
  have en3 : q_en x3 = (z0, mo, b, L, xs) := (u3.2.2.2.2.1.trans en2).trans en1
  refine st_eq (cl x3 en3) ?_
  dsimp only
  obtain ⟨z, e2, hM, hal, en4, har4, hfd, hai, hsz4, hsl4, W4⟩ := M_init (x := x3) (m := q_sz y) (c := c) W3 (by rw [u3.2.2.2.2.2.1, if_pos ⟨rfl, rfl⟩]) (fun k hk => by rw [u3.2.2.2.2.2.2, if_pos ⟨rfl, rfl⟩]; exact mo_11 k hk)
  refine st_eq e2 ?_
  dsimp only
  have a3 : ∀ d, d ≠ 11 → q_al x3 d = q_al y d := fun d hd => by funext v; rw [u3.2.2.2.2.2.1, if_neg (fun t => hd t.1)]
  have f3 : ∀ d, d ≠ 11 → q_fd x3 d = q_fd y d := fun d hd => by funext j v; rw [u3.2.2.2.2.2.2, if_neg (fun t => hd t.1)]
  have fs : fS z A (cCap c) := by
    refine ⟨hcS.fr (fun d hd => by rw [hal, a3 d hd]) (fun d hd => by rw [hfd d hd, f3 d hd]) (fun t ht => by rw [hai t ht, u3.2.2.1]), jL_cls hjL (fun d v hv => ?_) (by rw [hfd 2 (by decide), f3 2 (by decide)]) (by rw [har4, u3.2.2.2.1]) (by rw [en4, u3.2.2.2.2.1]), W4⟩
    rw [hal]; exact uN_al u3 hv
  have ez : q_en z = (z0, mo, b, L, xs) := en4.trans en3
  have z1 : q_sz z ≤ sz + 1000 := by rw [hsz4, u3.1, hsz, u1.1, hs]; omega
  have z2 : q_sl z ≤ 100000 := by
    have q1 : q_sl x1 = 6 := by rw [u1.2.1, hl]; rfl
    have q3 : q_sl x3 = q_sl y + 40 := by rw [u3.2.1]; rfl
    omega
  rw [← hA]
  show gO sz (jf_La_law_B28 (jf_La_law_L28 999) z (some b) (some (A 0)) (some (q_sz y)) 1)
  by_cases h6 : L = 6
  · subst h6
    exact g_one fs hM ez z1 z2
  · have h7 : L < 6 := by omega
    have h8 : ∀ i : Fin 6, nI i.1 - 5 < 1 := by decide
    unfold jf_La_law_B28
    rw [lenS_eq ez, Option.bind_some, if_pos (h8 ⟨L, h7⟩)]
    exact ⟨(z, 1), rfl, rfl, (show q_sz z ≤ sz + 600000 by omega), (show q_sl z ≤ 7302250 by omega)⟩

