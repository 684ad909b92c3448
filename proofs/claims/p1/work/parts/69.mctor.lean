/-! The reference's constructor, walked. -/
def tad (s t : Nat) : Nat := s + tar.findIdx (fun z => z.2.1 == t)
def T0 (cap : Int32) : tT := ((fun k => if k = 0 then cap else 0), fun _ _ => 0)
/-- the first i arrays stand; all else is as in x0 -/
def mQ (x0 : q_S) (m i : Nat) (x : q_S) : Prop :=
  q_al x = q_al x0 ∧ q_en x = q_en x0 ∧ q_ar x = q_ar x0 ∧ (∀ c, c ≠ 11 → q_fd x c = q_fd x0 c) ∧ (∀ t, t < 10 → q_ai x t = q_ai x0 t) ∧ q_sz x = q_sz x0 + i ∧ q_sl x ≤ q_sl x0 + 1000 * i ∧ wf x ∧ (∀ k, tik k = true → q_fd x 11 k m = .int 0) ∧ ∀ j z, j < i → tar[j]? = some z → q_fd x 11 z.1 m = .ref (tad (q_sz x0) z.2.1) ∧ q_ai x z.2.1 (tad (q_sz x0) z.2.1) = some (z.2.2, fun _ => 0)
theorem tar_ix : ∀ j : Fin 30, ∀ z, tar[j.1]? = some z → tar.findIdx (fun w => w.2.1 == z.2.1) = j.1 ∧ 10 ≤ z.2.1 ∧ tik z.1 = false ∧ z.2.2 ≤ 1000 := by
  intro j
  have : ∀ j : Fin 30, (tar[j.1]?).all (fun z => decide (tar.findIdx (fun w => w.2.1 == z.2.1) = j.1 ∧ 10 ≤ z.2.1 ∧ tik z.1 = false ∧ z.2.2 ≤ 1000)) = true := by decide +kernel
  intro z hz
  have h := this j
  rw [hz] at h
  exact of_decide_eq_true h
theorem tar_k : ∀ i j : Fin 30, ∀ z w, tar[i.1]? = some z → tar[j.1]? = some w → z.1 = w.1 → i = j := by
  intro i j z w hz hw e
  have : ∀ i j : Fin 30, (tar[i.1]?).all (fun z => (tar[j.1]?).all (fun w => decide (z.1 = w.1 → i = j))) = true := by decide +kernel
  have h := this i j
  rw [hz, hw] at h
  exact of_decide_eq_true h e
theorem tar_30 {i : Nat} {z : Nat × Nat × Nat} (h : tar[i]? = some z) : i < 30 := (List.getElem?_eq_some_iff.mp h).1
set_option maxHeartbeats 1000000 in
theorem mo_step {α : Type} {G : Option α → Prop} {x0 x : q_S} {m i k t n : Nat} {v : Int32} {f : q_S → Option α} (hm : q_al x0 11 m = true) (h : mQ x0 m i x) (hz : tar[i]? = some (k, t, n)) (hv : v = nI n) (c : ∀ y, mQ x0 m (i + 1) y → G (f y)) : G ((q_nI x t v).bind fun x1 => (q_pR x1 (some m) 11 k (some (q_sz x))).bind f) := by
  obtain ⟨h1, h2, h3, h4, h5, h6, h7, h8, h9, h10⟩ := h
  obtain ⟨g1, g2, g3, g4⟩ := tar_ix ⟨i, tar_30 hz⟩ _ hz
  dsimp only at g1 g2 g3 g4
  refine st_nI hv (by omega) (fun x1 u => ?_)
  have hw1 := wf_uA h8 u
  obtain ⟨u1, u2, u3, u4, u5, u6, u7⟩ := u
  refine st_pR (by rw [u3, h1]; exact hm) (fun y v => ?_)
  have hw2 := wf_uF hw1 v
  obtain ⟨v1, v2, v3, v4, v5, v6, v7⟩ := v
  refine c y ⟨by rw [v3, u3, h1], by rw [v6, u5, h2], by rw [v5, u4, h3], fun c hc => ?_, fun t' ht => ?_, by omega, by omega, hw2, fun k' hk => ?_, fun j z hj hz' => ?_⟩
  · funext j b
    rw [v7, if_neg (fun z => hc z.1), u6, h4 c hc]
  · funext b
    rw [v4, u7, if_neg (fun z => by omega), h5 t' ht]
  · rw [v7, if_neg (fun z => by rw [z.2.1, g3] at hk; cases hk), u6]; exact h9 k' hk
  · have e1 := tar_ix ⟨j, tar_30 hz'⟩ _ hz'
    by_cases hc : j = i
    · subst hc
      cases hz.symm.trans hz'
      dsimp only
      have e : tad (q_sz x0) t = q_sz x := by unfold tad; rw [g1, h6]
      rw [v7, if_pos ⟨rfl, rfl, rfl⟩, v4, u7, e, if_pos ⟨rfl, rfl⟩]
      exact ⟨rfl, rfl⟩
    · have e2 := h10 j z (by omega) hz'
      have e3 : tad (q_sz x0) z.2.1 = q_sz x0 + j := by unfold tad; rw [e1.1]
      rw [v7, if_neg (fun w => hc (congrArg Fin.val (tar_k ⟨j, tar_30 hz'⟩ ⟨i, tar_30 hz⟩ _ _ hz' hz w.2.1))), u6, v4, u7, if_neg (fun w => by omega)]
      exact e2
theorem tln_ix {t k n : Nat} (h : tln t = some (k, n)) : ∃ j, j < 30 ∧ tar[j]? = some (k, t, n) := by
  unfold tln at h
  obtain ⟨z, hz, ez⟩ := Option.map_eq_some_iff.mp h
  have z2 : z.2.1 = t := by simpa using List.find?_some hz
  obtain ⟨j, hj, e⟩ := List.mem_iff_getElem.mp (List.mem_of_find?_eq_some hz)
  refine ⟨j, hj, ?_⟩
  rw [List.getElem?_eq_getElem hj, e]
  cases ez
  rw [← z2]
theorem mQ_end {x0 x y : q_S} {m : Nat} {v : Int32} (hm : q_al x0 11 m = true) (h : mQ x0 m 30 x) (u : uF x y 11 0 m (.int v)) : tM y m (tad (q_sz x0)) (T0 v) ∧ q_al y = q_al x0 ∧ q_en y = q_en x0 ∧ q_ar y = q_ar x0 ∧ (∀ c, c ≠ 11 → q_fd y c = q_fd x0 c) ∧ (∀ t, t < 10 → q_ai y t = q_ai x0 t) ∧ q_sz y = q_sz x0 + 30 ∧ q_sl y ≤ q_sl x0 + 30000 ∧ wf y := by
  obtain ⟨h1, h2, h3, h4, h5, h6, h7, h8, h9, h10⟩ := h
  have hw := wf_uF h8 u
  obtain ⟨v1, v2, v3, v4, v5, v6, v7⟩ := u
  refine ⟨⟨by rw [v3, h1]; exact hm, fun k hk => ?_, fun t k n ht => ?_⟩, by rw [v3, h1], by rw [v6, h2], by rw [v5, h3], fun c hc => ?_, fun t ht => by rw [v4, h5 t ht], by omega, by omega, hw⟩
  · rw [v7]
    by_cases hk0 : k = 0
    · rw [if_pos ⟨rfl, hk0, rfl⟩]; unfold T0; dsimp only; rw [if_pos hk0]
    · rw [if_neg (fun z => hk0 z.2.1), h9 k hk]; unfold T0; dsimp only; rw [if_neg hk0]
  · obtain ⟨j, hj, e⟩ := tln_ix ht
    have hk := (tln_10 ht).2
    obtain ⟨q1, q2⟩ := h10 j _ hj e
    rw [v7, if_neg (fun z => by rw [z.2.1] at hk; cases hk), v4]
    exact ⟨q1, q2⟩
  · funext j b
    rw [v7, if_neg (fun z => hc z.1), h4 c hc]
def mPost (x0 : q_S) (m : Nat) (c : Int32) (o : Option (q_S × Unit)) : Prop := ∃ y, o = some (y, ()) ∧ tM y m (tad (q_sz x0)) (T0 (cCap c)) ∧ q_al y = q_al x0 ∧ q_en y = q_en x0 ∧ q_ar y = q_ar x0 ∧ (∀ c, c ≠ 11 → q_fd y c = q_fd x0 c) ∧ (∀ t, t < 10 → q_ai y t = q_ai x0 t) ∧ q_sz y = q_sz x0 + 30 ∧ q_sl y ≤ q_sl x0 + 30000 ∧ wf y
set_option maxHeartbeats 4000000 in
set_option maxRecDepth 20000 in
theorem M_init {x : q_S} {m : Nat} {c : Int32} (W0 : wf x) (hm : q_al x 11 m = true) (hi : ∀ k, tik k = true → q_fd x 11 k m = .int 0) : mPost x m c (jf_Mo_init x m c) := by
  have h0 : mQ x m 0 x := ⟨rfl, rfl, rfl, fun _ _ => rfl, fun _ _ => rfl, rfl, Nat.le_refl _, W0, hi, fun j _ hj => absurd hj (Nat.not_lt_zero j)⟩
  unfold jf_Mo_init
  refine mo_step hm h0 rfl rfl (fun x1 h1 => ?_)
  refine mo_step hm h1 rfl rfl (fun x2 h2 => ?_)
  refine mo_step hm h2 rfl rfl (fun x3 h3 => ?_)
  refine mo_step hm h3 rfl rfl (fun x4 h4 => ?_)
  refine mo_step hm h4 rfl rfl (fun x5 h5 => ?_)
  refine mo_step hm h5 rfl rfl (fun x6 h6 => ?_)
  refine mo_step hm h6 rfl rfl (fun x7 h7 => ?_)
  refine mo_step hm h7 rfl rfl (fun x8 h8 => ?_)
  refine mo_step hm h8 rfl rfl (fun x9 h9 => ?_)
  refine mo_step hm h9 rfl rfl (fun x10 h10 => ?_)
  refine mo_step hm h10 rfl rfl (fun x11 h11 => ?_)
  refine mo_step hm h11 rfl rfl (fun x12 h12 => ?_)
  refine mo_step hm h12 rfl rfl (fun x13 h13 => ?_)
  refine mo_step hm h13 rfl rfl (fun x14 h14 => ?_)
  refine mo_step hm h14 rfl rfl (fun x15 h15 => ?_)
  refine mo_step hm h15 rfl rfl (fun x16 h16 => ?_)
  refine mo_step hm h16 rfl rfl (fun x17 h17 => ?_)
  refine mo_step hm h17 rfl rfl (fun x18 h18 => ?_)
  refine mo_step hm h18 rfl rfl (fun x19 h19 => ?_)
  refine mo_step hm h19 rfl rfl (fun x20 h20 => ?_)
  refine mo_step hm h20 rfl rfl (fun x21 h21 => ?_)
  refine mo_step hm h21 rfl rfl (fun x22 h22 => ?_)
  refine mo_step hm h22 rfl rfl (fun x23 h23 => ?_)
  refine mo_step hm h23 rfl rfl (fun x24 h24 => ?_)
  refine mo_step hm h24 rfl rfl (fun x25 h25 => ?_)
  refine mo_step hm h25 rfl rfl (fun x26 h26 => ?_)
  refine mo_step hm h26 rfl rfl (fun x27 h27 => ?_)
  refine mo_step hm h27 rfl rfl (fun x28 h28 => ?_)
  refine mo_step hm h28 rfl rfl (fun x29 h29 => ?_)
  refine mo_step hm h29 rfl rfl (fun x30 h30 => ?_)
  have cc : cCap c = if 3 ≤ c then if c ≤ 6 then c else 6 else 3 := by
    unfold cCap
    by_cases h1 : (3 : Int32) ≤ c
    · by_cases h2 : c ≤ (6 : Int32)
      · rw [if_pos h1, if_pos h2]
        by_cases h3 : c < (6 : Int32)
        · rw [if_pos h3]
          by_cases h4 : (3 : Int32) < c
          · rw [if_pos h4]
          · rw [if_neg h4]; exact Int32.le_antisymm h1 (Int32.not_lt.mp h4)
        · rw [if_neg h3, if_pos (by decide)]; exact Int32.le_antisymm (Int32.not_lt.mp h3) h2
      · rw [if_pos h1, if_neg h2, if_neg (fun h => h2 (Int32.le_of_lt h)), if_pos (by decide)]
    · rw [if_neg h1, if_pos (Int32.lt_trans (Int32.not_le.mp h1) (by decide)), if_neg (fun h => h1 (Int32.le_of_lt h))]
  by_cases h1 : (3 : Int32) ≤ c
  · rw [if_pos h1] at cc ⊢
    by_cases h2 : c ≤ (6 : Int32)
    · rw [if_pos h2] at cc ⊢
      refine st_pI (by rw [h30.1]; exact hm) (fun y u => ⟨y, rfl, ?_⟩)
      rw [cc]; exact mQ_end hm h30 u
    · rw [if_neg h2] at cc ⊢
      refine st_pI (by rw [h30.1]; exact hm) (fun y u => ⟨y, rfl, ?_⟩)
      rw [cc]; exact mQ_end hm h30 u
  · rw [if_neg h1] at cc ⊢
    refine st_pI (by rw [h30.1]; exact hm) (fun y u => ⟨y, rfl, ?_⟩)
    rw [cc]; exact mQ_end hm h30 u
