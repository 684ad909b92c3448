/-! Each instruction that changes the pure state: the machine follows. -/
theorem q_gset {ws : va_W} {q0 q1 : Nat} {e : Nat × va_E} (h : q1 ≠ q0) : (ws.set q0 e)[q1]? = ws[q1]? := by
  rw [List.getElem?_set]
  rw [if_neg (Ne.symm h)]
theorem q_gset0 {ws : va_W} {q0 : Nat} {e e0 : Nat × va_E} (h : ws[q0]? = some e0) : (ws.set q0 e)[q0]? = some e := by
  rw [List.getElem?_set, if_pos rfl, if_pos (List.getElem?_eq_some_iff.mp h).1]
section QR
variable {D : va_G} {dA : Nat → ClassId} {x : q_S} {ws : va_W} {H H1 : Heap}
theorem q_Rw_putF {ci k a q0 : Nat} {fs : List Value} {q : vw_C} {v : Value} (h : q_Rw D dA x ws H) (hq : qC[ci]? = some q) (hk : k < q.2.2) (hlen : fs.length = q.2.2) (hfs : ∀ j : Nat, j < q.2.2 → fs[j]? = some (q_fd x ci j a)) (hw : ws[q0]? = some (a, .inr (ci, fs))) (hP1 : va_P D qC (ws.set q0 (a, .inr (ci, fs.set k v))) H1) : q_Rw D dA (q_putF x ci k a v) (ws.set q0 (a, .inr (ci, fs.set k v))) H1 := by
  obtain ⟨hP, hD, hO, hAi, hAr, hu1, hu2⟩ := h
  refine ⟨hP1, hD.set hw, fun cj b hal => ?_, fun t b n f hf => ?_, fun t b n f hf => ?_, hu1, hu2⟩
  · obtain ⟨q1, fs', q', hq', hw', hlen', hfs'⟩ := hO cj b hal
    by_cases hc : q1 = q0
    · subst hc
      cases hw.symm.trans hw'
      cases hq.symm.trans hq'
      refine ⟨q1, fs.set k v, q, hq, q_gset0 hw, by rw [List.length_set]; exact hlen, fun j hj => ?_⟩
      rw [List.getElem?_set]
      by_cases hjk : k = j
      · subst hjk
        rw [if_pos rfl, if_pos (by omega)]
        show some v = some (if _ then v else _)
        rw [if_pos ⟨rfl, rfl, rfl⟩]
      · rw [if_neg hjk, hfs j hj]
        show some _ = some (if _ then v else _)
        rw [if_neg (fun z => hjk z.2.1.symm)]
    · refine ⟨q1, fs', q', hq', by rw [q_gset hc]; exact hw', hlen', fun j hj => ?_⟩
      rw [hfs' j hj]
      show some _ = some (if _ then v else _)
      rw [if_neg (fun z => hc (hD.1 q1 q0 _ _ hw' hw z.2.2))]
  · obtain ⟨q1, hw'⟩ := hAi t b n f hf
    have hc : q1 ≠ q0 := fun z => by subst z; cases hw.symm.trans hw'
    exact ⟨q1, by rw [q_gset hc]; exact hw'⟩
  · obtain ⟨q1, hw'⟩ := hAr t b n f hf
    have hc : q1 ≠ q0 := fun z => by subst z; cases hw.symm.trans hw'
    exact ⟨q1, by rw [q_gset hc]; exact hw'⟩
theorem q_Rw_putI {t a q0 n : Nat} {f g : Nat → Int32} (h : q_Rw D dA x ws H) (ha : q_ai x t a = some (n, f)) (hw : ws[q0]? = some (a, .inl (dA (q_kd t), n, .inl f))) (hP1 : va_P D qC (ws.set q0 (a, .inl (dA (q_kd t), n, .inl g))) H1) : q_Rw D dA (q_putI x t a n g) (ws.set q0 (a, .inl (dA (q_kd t), n, .inl g))) H1 := by
  obtain ⟨hP, hD, hO, hAi, hAr, hu1, hu2⟩ := h
  have old : ∀ (u b : Nat) (y : Nat × (Nat → Int32)), q_ai (q_putI x t a n g) u b = some y → ∃ z, q_ai x u b = some z := by
    intro u b y hy
    have hy : (if u = t ∧ b = a then some (n, g) else q_ai x u b) = some y := hy
    by_cases hc : u = t ∧ b = a
    · exact ⟨_, by rw [hc.1, hc.2]; exact ha⟩
    · rw [if_neg hc] at hy; exact ⟨_, hy⟩
  refine ⟨hP1, hD.set hw, fun cj b hal => ?_, fun u b n' f' hf => ?_, fun u b n' f' hf => ?_, fun u u' b y z hy hz => ?_, hu2⟩
  · obtain ⟨q1, fs', q', hq', hw', hlen', hfs'⟩ := hO cj b hal
    have hc : q1 ≠ q0 := fun z => by subst z; have h9 := hw.symm.trans hw'; simp at h9
    exact ⟨q1, fs', q', hq', by rw [q_gset hc]; exact hw', hlen', hfs'⟩
  · have hf2 : (if u = t ∧ b = a then some (n, g) else q_ai x u b) = some (n', f') := hf
    by_cases hc : u = t ∧ b = a
    · rw [if_pos hc] at hf2
      cases hf2
      rw [hc.1, hc.2]
      exact ⟨q0, q_gset0 hw⟩
    · rw [if_neg hc] at hf2
      obtain ⟨q1, hw'⟩ := hAi u b n' f' hf2
      have hne : q1 ≠ q0 := fun z => by
        subst z
        have hb : b = a := congrArg (fun o : Nat × va_E => o.1) (Option.some.inj (hw'.symm.trans hw))
        subst hb
        exact hc ⟨hu1 u t b _ _ hf2 ha, rfl⟩
      exact ⟨q1, by rw [q_gset hne]; exact hw'⟩
  · obtain ⟨q1, hw'⟩ := hAr u b n' f' hf
    have hc : q1 ≠ q0 := fun z => by subst z; have h9 := hw.symm.trans hw'; simp at h9
    exact ⟨q1, by rw [q_gset hc]; exact hw'⟩
  · obtain ⟨y', hy'⟩ := old u b y hy
    obtain ⟨z', hz'⟩ := old u' b z hz
    exact hu1 u u' b y' z' hy' hz'
theorem q_Rw_putR {t a q0 n : Nat} {f g : Nat → Option Nat} (h : q_Rw D dA x ws H) (ha : q_ar x t a = some (n, f)) (hw : ws[q0]? = some (a, .inl (dA 2, n, .inr (.inr (.inr (.inr f)))))) (hP1 : va_P D qC (ws.set q0 (a, .inl (dA 2, n, .inr (.inr (.inr (.inr g)))))) H1) : q_Rw D dA (q_putR x t a n g) (ws.set q0 (a, .inl (dA 2, n, .inr (.inr (.inr (.inr g)))))) H1 := by
  obtain ⟨hP, hD, hO, hAi, hAr, hu1, hu2⟩ := h
  have old : ∀ (u b : Nat) (y : Nat × (Nat → Option Nat)), q_ar (q_putR x t a n g) u b = some y → ∃ z, q_ar x u b = some z := by
    intro u b y hy
    have hy : (if u = t ∧ b = a then some (n, g) else q_ar x u b) = some y := hy
    by_cases hc : u = t ∧ b = a
    · exact ⟨_, by rw [hc.1, hc.2]; exact ha⟩
    · rw [if_neg hc] at hy; exact ⟨_, hy⟩
  refine ⟨hP1, hD.set hw, fun cj b hal => ?_, fun u b n' f' hf => ?_, fun u b n' f' hf => ?_, hu1, fun u u' b y z hy hz => ?_⟩
  · obtain ⟨q1, fs', q', hq', hw', hlen', hfs'⟩ := hO cj b hal
    have hc : q1 ≠ q0 := fun z => by subst z; have h9 := hw.symm.trans hw'; simp at h9
    exact ⟨q1, fs', q', hq', by rw [q_gset hc]; exact hw', hlen', hfs'⟩
  · obtain ⟨q1, hw'⟩ := hAi u b n' f' hf
    have hc : q1 ≠ q0 := fun z => by subst z; have h9 := hw.symm.trans hw'; simp at h9
    exact ⟨q1, by rw [q_gset hc]; exact hw'⟩
  · have hf2 : (if u = t ∧ b = a then some (n, g) else q_ar x u b) = some (n', f') := hf
    by_cases hc : u = t ∧ b = a
    · rw [if_pos hc] at hf2
      cases hf2
      rw [hc.2]
      exact ⟨q0, q_gset0 hw⟩
    · rw [if_neg hc] at hf2
      obtain ⟨q1, hw'⟩ := hAr u b n' f' hf2
      have hne : q1 ≠ q0 := fun z => by
        subst z
        have hb : b = a := congrArg (fun o : Nat × va_E => o.1) (Option.some.inj (hw'.symm.trans hw))
        subst hb
        exact hc ⟨hu2 u t b _ _ hf2 ha, rfl⟩
      exact ⟨q1, by rw [q_gset hne]; exact hw'⟩
  · obtain ⟨y', hy'⟩ := old u b y hy
    obtain ⟨z', hz'⟩ := old u' b z hz
    exact hu2 u u' b y' z' hy' hz'
theorem q_gapp {q1 : Nat} {e o : Nat × va_E} (h : ws[q1]? = some o) : (ws ++ [e])[q1]? = some o := by
  rw [List.getElem?_append_left (List.getElem?_eq_some_iff.mp h).1]; exact h
theorem q_gapp0 {e : Nat × va_E} : (ws ++ [e])[ws.length]? = some e := by
  rw [List.getElem?_append_right (Nat.le_refl _), Nat.sub_self]; rfl
theorem q_P1 {e : Nat × va_E} (hP : va_P D qC ws H) (hz : ∀ q : Nat, q < H.size → H1[q]? = H[q]?) (he : va_at D qC e H1) : va_P D qC (ws ++ [e]) H1 := by
  refine (hP.kept (fun k o ho => hz o.1 ((hP k o ho).lt))).app (fun k o ho => ?_)
  have hk : k < 1 := (List.getElem?_eq_some_iff.mp ho).1
  rw [show k = 0 by omega] at ho
  cases ho
  exact he
theorem q_D1 {A B : Nat → Prop} {a : Nat} {e : va_E} (hP : va_P D qC ws H) (hD : va_D A ws) (ha : a = H.size) (hAB : ∀ q, A q → B q) (hB : B a) : va_D B (ws ++ [(a, e)]) :=
  va_D.push (hD.weaken (fun _ _ _ z => hAB _ z)) hP ha hB
theorem q_Rw_newO {ci : Nat} {q : vw_C} {fs : List Value} (h : q_Rw D dA x ws H) (hz : H.size = q_sz x) (hz1 : ∀ q : Nat, q < H.size → H1[q]? = H[q]?) (hq : qC[ci]? = some q) (hlen : fs.length = q.2.2) (he : va_at D qC (q_sz x, .inr (ci, fs)) H1) : q_Rw D dA (q_newO x ci fs.length (vp_V fs)) (ws ++ [(q_sz x, .inr (ci, fs))]) H1 := by
  obtain ⟨hP, hD, hO, hAi, hAr, hu1, hu2⟩ := h
  have own1 : ∀ a, q_ow x a = true → q_ow (q_newO x ci fs.length (vp_V fs)) a = true := fun a ha => by
    show (if a = q_sz x then true else q_ow x a) = true
    split
    · rfl
    · exact ha
  refine ⟨q_P1 hP hz1 he, q_D1 hP hD hz.symm own1 (by show (if q_sz x = q_sz x then true else _) = true; rw [if_pos rfl]), fun cj b hal => ?_, fun t b n f hf => ?_, fun t b n f hf => ?_, hu1, hu2⟩
  · have hal : (if cj = ci ∧ b = q_sz x then true else q_al x cj b) = true := hal
    by_cases hc : cj = ci ∧ b = q_sz x
    · rw [hc.1, hc.2]
      refine ⟨ws.length, fs, q, hq, q_gapp0, hlen, fun k hk => ?_⟩
      show _ = some (if ci = ci ∧ q_sz x = q_sz x then vp_V fs k else _)
      rw [if_pos ⟨rfl, rfl⟩]
      unfold vp_V
      rw [List.getD_eq_getElem?_getD, List.getElem?_eq_getElem (by omega)]
      rfl
    · rw [if_neg hc] at hal
      obtain ⟨q1, fs', q', hq', hw', hlen', hfs'⟩ := hO cj b hal
      refine ⟨q1, fs', q', hq', q_gapp hw', hlen', fun k hk => ?_⟩
      show _ = some (if cj = ci ∧ b = q_sz x then vp_V fs k else _)
      rw [if_neg hc]
      exact hfs' k hk
  · obtain ⟨q1, hw'⟩ := hAi t b n f hf
    exact ⟨q1, q_gapp hw'⟩
  · obtain ⟨q1, hw'⟩ := hAr t b n f hf
    exact ⟨q1, q_gapp hw'⟩
theorem q_Rw_newI {t n : Nat} (h : q_Rw D dA x ws H) (hz : H.size = q_sz x) (hz1 : ∀ q : Nat, q < H.size → H1[q]? = H[q]?) (he : va_at D qC (q_sz x, .inl (dA (q_kd t), n, .inl (fun _ => 0))) H1) : q_Rw D dA (q_newI x t n) (ws ++ [(q_sz x, .inl (dA (q_kd t), n, .inl (fun _ => 0)))]) H1 := by
  obtain ⟨hP, hD, hO, hAi, hAr, hu1, hu2⟩ := h
  have own1 : ∀ a, q_ow x a = true → q_ow (q_newI x t n) a = true := fun a ha => by
    show (if a = q_sz x then true else q_ow x a) = true
    split
    · rfl
    · exact ha
  have no : ∀ (u : Nat) (y : Nat × (Nat → Int32)), ¬ q_ai x u (q_sz x) = some y := fun u y hy => by
    obtain ⟨q1, hw'⟩ := hAi u (q_sz x) y.1 y.2 hy
    have := (hP q1 _ hw').lt
    rw [hz] at this
    exact absurd this (Nat.lt_irrefl _)
  refine ⟨q_P1 hP hz1 he, q_D1 hP hD hz.symm own1 (by show (if q_sz x = q_sz x then true else _) = true; rw [if_pos rfl]), fun cj b hal => ?_, fun u b n' f hf => ?_, fun u b n' f hf => ?_, fun u u' b y z hy hz' => ?_, hu2⟩
  · obtain ⟨q1, fs', q', hq', hw', hlen', hfs'⟩ := hO cj b hal
    exact ⟨q1, fs', q', hq', q_gapp hw', hlen', hfs'⟩
  · have hf2 : (if u = t ∧ b = q_sz x then some (n, fun _ => 0) else q_ai x u b) = some (n', f) := hf
    by_cases hc : u = t ∧ b = q_sz x
    · rw [if_pos hc] at hf2
      cases hf2
      rw [hc.1, hc.2]
      exact ⟨ws.length, q_gapp0⟩
    · rw [if_neg hc] at hf2
      obtain ⟨q1, hw'⟩ := hAi u b n' f hf2
      exact ⟨q1, q_gapp hw'⟩
  · obtain ⟨q1, hw'⟩ := hAr u b n' f hf
    exact ⟨q1, q_gapp hw'⟩
  · have hy : (if u = t ∧ b = q_sz x then some (n, fun _ => 0) else q_ai x u b) = some y := hy
    have hz' : (if u' = t ∧ b = q_sz x then some (n, fun _ => 0) else q_ai x u' b) = some z := hz'
    by_cases hc : u = t ∧ b = q_sz x
    · by_cases hc' : u' = t ∧ b = q_sz x
      · rw [hc.1, hc'.1]
      · rw [if_neg hc', hc.2] at hz'
        exact absurd hz' (no _ _)
    · by_cases hc' : u' = t ∧ b = q_sz x
      · rw [if_neg hc, hc'.2] at hy
        exact absurd hy (no _ _)
      · rw [if_neg hc] at hy
        rw [if_neg hc'] at hz'
        exact hu1 u u' b y z hy hz'
theorem q_Rw_newR {t n : Nat} (h : q_Rw D dA x ws H) (hz : H.size = q_sz x) (hz1 : ∀ q : Nat, q < H.size → H1[q]? = H[q]?) (he : va_at D qC (q_sz x, .inl (dA 2, n, .inr (.inr (.inr (.inr (fun _ => none)))))) H1) : q_Rw D dA (q_newR x t n) (ws ++ [(q_sz x, .inl (dA 2, n, .inr (.inr (.inr (.inr (fun _ => none))))))]) H1 := by
  obtain ⟨hP, hD, hO, hAi, hAr, hu1, hu2⟩ := h
  have own1 : ∀ a, q_ow x a = true → q_ow (q_newR x t n) a = true := fun a ha => by
    show (if a = q_sz x then true else q_ow x a) = true
    split
    · rfl
    · exact ha
  have no : ∀ (u : Nat) (y : Nat × (Nat → Option Nat)), ¬ q_ar x u (q_sz x) = some y := fun u y hy => by
    obtain ⟨q1, hw'⟩ := hAr u (q_sz x) y.1 y.2 hy
    have := (hP q1 _ hw').lt
    rw [hz] at this
    exact absurd this (Nat.lt_irrefl _)
  refine ⟨q_P1 hP hz1 he, q_D1 hP hD hz.symm own1 (by show (if q_sz x = q_sz x then true else _) = true; rw [if_pos rfl]), fun cj b hal => ?_, fun u b n' f hf => ?_, fun u b n' f hf => ?_, hu1, fun u u' b y z hy hz' => ?_⟩
  · obtain ⟨q1, fs', q', hq', hw', hlen', hfs'⟩ := hO cj b hal
    exact ⟨q1, fs', q', hq', q_gapp hw', hlen', hfs'⟩
  · obtain ⟨q1, hw'⟩ := hAi u b n' f hf
    exact ⟨q1, q_gapp hw'⟩
  · have hf2 : (if u = t ∧ b = q_sz x then some (n, fun _ => none) else q_ar x u b) = some (n', f) := hf
    by_cases hc : u = t ∧ b = q_sz x
    · rw [if_pos hc] at hf2
      cases hf2
      rw [hc.2]
      exact ⟨ws.length, q_gapp0⟩
    · rw [if_neg hc] at hf2
      obtain ⟨q1, hw'⟩ := hAr u b n' f hf2
      exact ⟨q1, q_gapp hw'⟩
  · have hy : (if u = t ∧ b = q_sz x then some (n, fun _ => none) else q_ar x u b) = some y := hy
    have hz' : (if u' = t ∧ b = q_sz x then some (n, fun _ => none) else q_ar x u' b) = some z := hz'
    by_cases hc : u = t ∧ b = q_sz x
    · by_cases hc' : u' = t ∧ b = q_sz x
      · rw [hc.1, hc'.1]
      · rw [if_neg hc', hc.2] at hz'
        exact absurd hz' (no _ _)
    · by_cases hc' : u' = t ∧ b = q_sz x
      · rw [if_neg hc, hc'.2] at hy
        exact absurd hy (no _ _)
      · rw [if_neg hc] at hy
        rw [if_neg hc'] at hz'
        exact hu2 u u' b y z hy hz'
end QR
