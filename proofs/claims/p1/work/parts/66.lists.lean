/-! ArrayList: add, add at a place, remove, the empty one. -/
theorem lI_len {x : q_S} {a : Nat} {xs : List Nat} (h : lI x a xs) (hw : wf x) : ∃ e n, q_fd x 2 1 a = .ref e ∧ q_lenR x 0 (some e) = some (nI n) ∧ xs.length ≤ n ∧ n ≤ 2000 ∧ (n = xs.length ∨ ∃ f, q_ar x 0 e = some (n, f) ∧ 10 ≤ n ∧ e ≠ q_z0 x ∧ ∀ i, i < xs.length → f i = xs[i]?) ∧ ∀ e' cap f, q_fd x 2 1 a = .ref e' → q_ar x 0 e' = some (cap, f) → cap = n := by
  obtain ⟨h1, -, h3, e, h4, h5⟩ := h
  rcases h5 with ⟨rfl, rfl⟩ | ⟨cap, f, h5, h6, h7, h8, h9⟩
  · refine ⟨_, 0, h4, y_lenZ hw.2.1, Nat.le_refl _, by omega, Or.inl rfl, fun e' cap f g1 g2 => ?_⟩
    cases h4.symm.trans g1
    rw [hw.2.1] at g2
    cases g2
  · refine ⟨e, cap, h4, y_lenR h5, h6, h8, Or.inr ⟨f, h5, h7, fun z => ?_, h9⟩, fun e' cap' f' g1 g2 => ?_⟩
    · rw [z, hw.2.1] at h5; cases h5
    · cases h4.symm.trans g1
      cases h5.symm.trans g2
      rfl
theorem L_mc {x : q_S} {a : Nat} {xs : List Nat} {v : Int32} (h : lI x a xs) : lI (q_putF x 2 0 a (.int v)) a xs := by
  obtain ⟨h1, -, h3, e, h4, h5⟩ := h
  exact ⟨h1, ⟨v, by rw [z_fd_putF, if_pos ⟨rfl, rfl, rfl⟩]⟩, by rw [z_fd_putF, if_neg (fun z => by cases z.2.1)]; exact h3, e, by rw [z_fd_putF, if_neg (fun z => by cases z.2.1)]; exact h4, h5⟩
theorem wf_putF {x : q_S} {c k a : Nat} {v : Value} (h : wf x) : wf (q_putF x c k a v) := h
theorem q_ok_app {x : q_S} {xs : List Nat} {v : Nat} (h : ∀ w ∈ xs, q_ok x (some w) = true) (hv : q_ok x (some v) = true) : ∀ w ∈ xs ++ [v], q_ok x (some w) = true := fun w hw => by
  rcases List.mem_append.mp hw with h1 | h1
  · exact h w h1
  · rw [List.mem_singleton.mp h1]; exact hv
theorem up_app {xs : List Nat} {f : Nat → Option Nat} {v : Nat} (h : ∀ i, i < xs.length → f i = xs[i]?) : ∀ i, i < (xs ++ [v]).length → va_up f xs.length (some v) i = (xs ++ [v])[i]? := by
  intro i hi
  rw [List.length_append, List.length_singleton] at hi
  unfold va_up
  by_cases hc : i = xs.length
  · rw [if_pos hc, hc, List.getElem?_append_right (Nat.le_refl _), Nat.sub_self]; rfl
  · rw [if_neg hc, List.getElem?_append_left (by omega)]; exact h i (by omega)
theorem wf_len {x : q_S} (hw : wf x) {e n : Nat} {f : Nat → Option Nat} (h : q_ar x 0 e = some (n, f)) : e < q_sz x := by
  refine Nat.lt_of_not_le (fun z => ?_)
  rw [(hw.2.2.1 0 e z).2] at h
  cases h
theorem wf_putR {x : q_S} {e n : Nat} {f g : Nat → Option Nat} (hw : wf x) (h : q_ar x 0 e = some (n, f)) : wf (q_putR x 0 e n g) := by
  refine wf_eq hw rfl rfl rfl rfl (fun u b hb => ?_)
  rw [z_ar_putR, if_neg (fun z => by rw [z.1, z.2, h] at hb; cases hb)]
  exact hb
set_option maxHeartbeats 1000000 in
/-- an array is written, the size is set: the list is another -/
theorem L_put {x y : q_S} {L : Nat → Option (List Nat)} {a e cap : Nat} {xs ys : List Nat} {f g : Nat → Option Nat} {mc : Int32} (hJ : jL x L) (hL : L a = some xs) (hw : wf x) (hwy : wf y) (hd : q_fd x 2 1 a = .ref e) (har : q_ar x 0 e = some (cap, f)) (hez : e ≠ q_z0 x) (hc2 : 10 ≤ cap) (hc3 : cap ≤ 2000)
    (hy1 : q_al y = q_al x) (hy2 : q_ai y = q_ai x) (hy3 : q_en y = q_en x) (hy4 : q_sz y = q_sz x) (hy5 : q_sl y = q_sl x) (hfd : ∀ c j b, q_fd y c j b = if c = 2 ∧ j = 2 ∧ b = a then .int (nI ys.length) else if c = 2 ∧ j = 0 ∧ b = a then .int mc else q_fd x c j b) (har : ∀ b, q_ar y 0 b = if b = e then some (cap, g) else q_ar x 0 b) (hys : ys.length ≤ cap) (hg : ∀ i, i < ys.length → g i = ys[i]?) (hok : ∀ v ∈ ys, q_ok x (some v) = true) (hlen : ys.length ≤ 1000) : jL y (fun b => if b = a then some ys else L b) ∧ oL x y := by
  refine ⟨jL_upd (e := e) (cap := cap) (f := g) (mc := mc) hJ hL hy1 hy3 (fun j b => ?_) har hys hc2 hc3 hg hok hlen (jL_own hJ hL hd hez) hez, hy1, hy2, hy3, fun c hc => ?_, by omega, by omega, by omega, by omega, hwy⟩
  · rw [hfd]
    by_cases hb : b = a
    · subst hb
      by_cases h0 : j = 0
      · subst h0; simp
      · by_cases h1 : j = 1
        · subst h1; simp [hd]
        · by_cases h2 : j = 2
          · subst h2; simp
          · simp [h0, h1, h2]
    · simp [hb]
  · funext j b
    rw [hfd, if_neg (fun z => hc z.1), if_neg (fun z => hc z.1)]
set_option maxHeartbeats 2000000 in
theorem L_add {x : q_S} {L : Nat → Option (List Nat)} {a v : Nat} {xs : List Nat} (hJ : jL x L) (hL : L a = some xs) (hw : wf x) (hv : q_ok x (some v) = true) (hl : xs.length < 1000) : ∃ y, jf_AL_add x a (some v) = some (y, 1) ∧ jL y (fun b => if b = a then some (xs ++ [v]) else L b) ∧ oL x y := by
  obtain ⟨hI, hok, -⟩ := hJ.1 a xs hL
  have hI0 := hI
  obtain ⟨h1, ⟨mc, h2⟩, h3, -⟩ := hI0
  have hI3 := L_mc (v := mc + 1) hI
  have hw3 : wf (q_putF x 2 0 a (.int (mc + 1))) := wf_putF hw
  obtain ⟨e, n, g1, g2, g3, g4, g5, g6⟩ := lI_len hI3 hw3
  have k3 := hI3.2.2.1
  have hlen' : (xs ++ [v]).length = xs.length + 1 := by rw [List.length_append, List.length_singleton]
  have e1 : q_fd x 2 1 a = .ref e := by
    have := g1
    rw [z_fd_putF, if_neg (fun z => by cases z.2.1)] at this
    exact this
  unfold jf_AL_add
  simp only [y_gI h1 h2, Option.bind_some, y_pI h1, y_gRs (show q_al (q_putF x 2 0 a (.int (mc + 1))) 2 a = true from h1) g1, y_gI (show q_al (q_putF x 2 0 a (.int (mc + 1))) 2 a = true from h1) k3, y_av (show q_al (q_putF x 2 0 a (.int (mc + 1))) 2 a = true from h1)]
  unfold jf_AL_add3
  simp only [g2, Option.bind_some]
  by_cases hc : n = xs.length
  · -- the array is full
    subst hc
    rw [if_pos rfl]
    obtain ⟨x4, cap, f, k1, k2, k4, k5, k6, k7⟩ := L_grow hI3 hw3 hok (by omega) (fun e' cap' f' q1 q2 => g6 e' cap' f' q1 q2)
    obtain ⟨m1, m2, m3, m4, m5, m6, m7⟩ := k2
    have hw4 := wf_gR hw3 ⟨m1, m2, m3, m4, m5, m6, m7⟩
    have a4 : q_ar x4 0 (q_sz (q_putF x 2 0 a (.int (mc + 1)))) = some (cap, f) := by rw [m7, if_pos ⟨rfl, rfl⟩]
    have al4 : q_al x4 2 a = true := by rw [m3]; exact h1
    have ok4 : q_ok x4 (some v) = true := by
      refine q_ok_mono (fun c b hb => ?_) hv
      rw [m3]; exact hb
    simp only [y_av (show q_al (q_putF x 2 0 a (.int (mc + 1))) 2 a = true from h1), Option.bind_some, k1, y_sR (x := x4) a4 k4 (by omega) ok4, y_pI (show q_al (q_putR x4 0 (q_sz (q_putF x 2 0 a (.int (mc + 1)))) cap (va_up f xs.length (some v))) 2 a = true from al4)]
    refine ⟨_, rfl, ?_, ?_⟩
    · refine jL_upd (x := x) (e := q_sz x) (cap := cap) (f := va_up f xs.length (some v)) (mc := mc + 1) hJ hL m3 m5 (fun j b => ?_) (fun b => ?_) (by omega) k5 (by omega) (up_app k7) (q_ok_app hok hv) (by omega) (fun b zs hb _ => jL_fresh hJ hw b zs hb) (by have := hw.1; omega)
      · rw [z_fd_putF, z_fd_putR, m6, z_fd_putF, hlen', ← nI_1]
        show _ = _
        by_cases hb : b = a
        · subst hb
          by_cases h0 : j = 0
          · subst h0; simp
          · by_cases h1' : j = 1
            · subst h1'; simp; rfl
            · by_cases h2' : j = 2
              · subst h2'; simp
              · simp [h0, h1', h2']
        · simp [hb]
      · rw [z_ar_putF, z_ar_putR]
        by_cases hb : b = q_sz x
        · rw [if_pos ⟨rfl, hb⟩, if_pos hb]
        · rw [if_neg (fun z => hb z.2), if_neg hb, m7, if_neg (fun z => hb z.2)]; rfl
    · refine ⟨m3, m4, m5, fun c hc' => ?_, ?_, ?_, ?_, ?_, wf_putF (wf_putR hw4 a4)⟩
      · funext j b
        rw [z_fd_putF, if_neg (fun z => hc' z.1), z_fd_putR, m6, if_neg (fun z => hc' z.1), z_fd_putF, if_neg (fun z => hc' z.1)]
      · show q_sz x ≤ q_sz x4; rw [m1]; exact Nat.le_succ _
      · show q_sz x4 ≤ q_sz x + 1; rw [m1]; exact Nat.le_refl _
      · show q_sl x ≤ q_sl x4; rw [m2]; exact Nat.le_add_right _ _
      · show q_sl x4 ≤ q_sl x + 1510; rw [m2]; show q_sl x + cap ≤ q_sl x + 1510; omega
  · -- there is room
    rcases g5 with g5 | ⟨f, g5, g7, g8, g9⟩
    · exact absurd g5 hc
    · rw [if_neg (fun z => hc ((nI_eq (by omega) (by omega)).mp z).symm)]
      simp only [y_sR (x := q_putF x 2 0 a (.int (mc + 1))) g5 (show xs.length < n by omega) (by omega) (show q_ok (q_putF x 2 0 a (.int (mc + 1))) (some v) = true from hv), Option.bind_some, y_pI (show q_al (q_putR (q_putF x 2 0 a (.int (mc + 1))) 0 e n (va_up f xs.length (some v))) 2 a = true from h1)]
      refine ⟨_, rfl, ?_⟩
      refine L_put (e := e) (cap := n) (f := f) (g := va_up f xs.length (some v)) (mc := mc + 1) hJ hL hw (wf_putF (wf_putR hw3 g5)) e1 g5 g8 g7 g4 rfl rfl rfl rfl rfl (fun c j b => ?_) (fun b => ?_) (by omega) (up_app g9) (q_ok_app hok hv) (by omega)
      · rw [z_fd_putF, z_fd_putR, z_fd_putF, hlen', ← nI_1]
      · rw [z_ar_putF, z_ar_putR]
        by_cases hb : b = e
        · rw [if_pos ⟨rfl, hb⟩, if_pos hb]
        · rw [if_neg (fun z => hb z.2), if_neg hb]; rfl
