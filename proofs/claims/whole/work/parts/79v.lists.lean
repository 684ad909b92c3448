/-! ArrayList: add at a place, remove. -/
theorem ins_get {xs : List Nat} {p v : Nat} (hp : p ≤ xs.length) (i : Nat) : (xs.take p ++ v :: xs.drop p)[i]? = if i < p then xs[i]? else if i = p then some v else xs[i - 1]? := by
  have hl : (xs.take p).length = p := by rw [List.length_take]; omega
  by_cases h1 : i < p
  · rw [if_pos h1, List.getElem?_append_left (by omega), List.getElem?_take, if_pos h1]
  · rw [if_neg h1, List.getElem?_append_right (by omega), hl]
    by_cases h2 : i = p
    · rw [if_pos h2, h2, Nat.sub_self]; rfl
    · rw [if_neg h2]
      obtain ⟨k, hk⟩ : ∃ k, i - p = k + 1 := ⟨i - p - 1, by omega⟩
      rw [hk, List.getElem?_cons_succ, List.getElem?_drop, show p + k = i - 1 by omega]
theorem ins_len {xs : List Nat} {p v : Nat} (hp : p ≤ xs.length) : (xs.take p ++ v :: xs.drop p).length = xs.length + 1 := by
  rw [List.length_append, List.length_cons, List.length_take, List.length_drop]; omega
theorem ins_mem {xs : List Nat} {p v w : Nat} : w ∈ xs.take p ++ v :: xs.drop p ↔ w = v ∨ w ∈ xs := by
  rw [List.mem_append, List.mem_cons]
  have : w ∈ xs ↔ w ∈ xs.take p ∨ w ∈ xs.drop p := by rw [← List.mem_append, List.take_append_drop]
  rw [this]
  constructor
  · rintro (h | h | h)
    · exact Or.inr (Or.inl h)
    · exact Or.inl h
    · exact Or.inr (Or.inr h)
  · rintro (h | h | h)
    · exact Or.inr (Or.inl h)
    · exact Or.inl h
    · exact Or.inr (Or.inr h)
set_option maxHeartbeats 2000000 in
theorem L_addEnd {x x4 : q_S} {L : Nat → Option (List Nat)} {a e cap p v : Nat} {xs : List Nat} {f : Nat → Option Nat} {mc : Int32} (hJ : jL x L) (hL : L a = some xs) (hw4 : wf x4) (h1 : q_al x4 = q_al x) (h2 : q_ai x4 = q_ai x) (h3 : q_en x4 = q_en x) (hfd : ∀ c j b, q_fd x4 c j b = if c = 2 ∧ j = 1 ∧ b = a then .ref e else if c = 2 ∧ j = 0 ∧ b = a then .int mc else q_fd x c j b) (har : ∀ b, q_ar x4 0 b = if b = e then some (cap, f) else q_ar x 0 b) (hc1 : xs.length < cap) (hc2 : 10 ≤ cap) (hc3 : cap ≤ 2000) (hf : ∀ i, i < xs.length → f i = xs[i]?) (hok : ∀ v ∈ xs, q_ok x (some v) = true) (hv : q_ok x (some v) = true) (hl : xs.length < 1000) (he : ∀ b zs, L b = some zs → b ≠ a → q_fd x 2 1 b ≠ .ref e) (hez : e ≠ q_z0 x) (hp : p ≤ xs.length) : ∃ y, ((q_cp x4 0 (some e) (nI p) (some e) (nI p + 1) (nI xs.length - nI p)).bind fun x16 => (q_sR x16 0 (some e) (nI p) (some v)).bind fun x18 => (q_pI x18 (some a) 2 2 (nI xs.length + 1)).bind fun x20 => some (x20, ())) = some (y, ()) ∧ jL y (fun b => if b = a then some (xs.take p ++ v :: xs.drop p) else L b) ∧ q_al y = q_al x ∧ q_ai y = q_ai x ∧ q_en y = q_en x ∧ (∀ c, c ≠ 2 → q_fd y c = q_fd x c) ∧ q_sz y = q_sz x4 ∧ q_sl y = q_sl x4 ∧ wf y := by
  have a4 : q_ar x4 0 e = some (cap, f) := by rw [har, if_pos rfl]
  have mono : ∀ c b, q_al x c b = true → q_al x4 c b = true := fun c b h => by rw [h1]; exact h
  have al : q_al x4 2 a = true := mono _ _ (hJ.1 a xs hL).1.1
  rw [nI_1, nI_sub hp, nI_1]
  have cp := y_cp (x := x4) (t := 0) (sp := p) (dp := p + 1) (n := xs.length - p) a4 a4 (by omega) (by omega) (by omega) (by omega) (fun i hi => by
    have hi' : p + i < xs.length := by omega
    rw [hf _ hi', List.getElem?_eq_getElem hi']
    exact q_ok_mono mono (hok _ (List.getElem_mem hi')))
  rw [cp, Option.bind_some]
  have a5 : q_ar (q_putR x4 0 e cap (va_cpy f f p (p + 1) (xs.length - p))) 0 e = some (cap, va_cpy f f p (p + 1) (xs.length - p)) := by rw [z_ar_putR, if_pos ⟨rfl, rfl⟩]
  rw [y_sR a5 (show p < cap by omega) (by omega) (show q_ok (q_putR x4 0 e cap (va_cpy f f p (p + 1) (xs.length - p))) (some v) = true from q_ok_mono mono hv), Option.bind_some]
  rw [y_pI (show q_al (q_putR (q_putR x4 0 e cap (va_cpy f f p (p + 1) (xs.length - p))) 0 e cap (va_up (va_cpy f f p (p + 1) (xs.length - p)) p (some v))) 2 a = true from al), Option.bind_some]
  refine ⟨_, rfl, ?_, h1, h2, h3, fun c hc => ?_, rfl, rfl, wf_putF (wf_putR (wf_putR hw4 a4) a5)⟩
  · refine jL_upd (x := x) (e := e) (cap := cap) (f := va_up (va_cpy f f p (p + 1) (xs.length - p)) p (some v)) (mc := mc) hJ hL h1 h3 (fun j b => ?_) (fun b => ?_) (by rw [ins_len hp]; omega) hc2 hc3 (fun i hi => ?_) (fun w hw => ?_) (by rw [ins_len hp]; omega) he hez
    · rw [z_fd_putF, z_fd_putR, z_fd_putR, hfd, ins_len hp]
      by_cases hb : b = a
      · subst hb
        by_cases h0 : j = 0
        · subst h0; simp
        · by_cases h1' : j = 1
          · subst h1'; simp
          · by_cases h2' : j = 2
            · subst h2'; simp
            · simp [h0, h1', h2']
      · simp [hb]
    · rw [z_ar_putF, z_ar_putR]
      by_cases hb : b = e
      · rw [if_pos ⟨rfl, hb⟩, if_pos hb]
      · rw [if_neg (fun z => hb z.2), if_neg hb, z_ar_putR, if_neg (fun z => hb z.2), har, if_neg hb]
    · rw [ins_len hp] at hi
      rw [ins_get hp]
      unfold va_up va_cpy
      by_cases hc : i = p
      · rw [if_pos hc, if_neg (by omega), if_pos hc]
      · rw [if_neg hc]
        by_cases hlt : i < p
        · rw [if_neg (by omega), if_pos hlt]; exact hf i (by omega)
        · rw [if_pos (by omega), if_neg hlt, if_neg hc, show p + (i - (p + 1)) = i - 1 by omega]
          exact hf _ (by omega)
    · rcases ins_mem.mp hw with h | h
      · rw [h]; exact hv
      · exact hok w h
  · funext j b
    rw [z_fd_putF, if_neg (fun z => hc z.1), z_fd_putR, z_fd_putR, hfd, if_neg (fun z => hc z.1), if_neg (fun z => hc z.1)]
set_option maxHeartbeats 2000000 in
theorem L_addAt {x : q_S} {L : Nat → Option (List Nat)} {a v p : Nat} {xs : List Nat} (hJ : jL x L) (hL : L a = some xs) (hw : wf x) (hv : q_ok x (some v) = true) (hl : xs.length < 1000) (hp : p ≤ xs.length) : ∃ y, jf_AL_addAt x a (nI p) (some v) = some (y, ()) ∧ jL y (fun b => if b = a then some (xs.take p ++ v :: xs.drop p) else L b) ∧ oL x y ∧ q_sl y ≤ q_sl x + 2 * xs.length + 10 := by
  obtain ⟨hI, hok, -⟩ := hJ.1 a xs hL
  have hI0 := hI
  obtain ⟨h1, ⟨mc, h2⟩, h3, -⟩ := hI0
  have hI3 := L_mc (v := mc + 1) hI
  have hw3 : wf (q_putF x 2 0 a (.int (mc + 1))) := wf_putF hw
  obtain ⟨e, n, g1, g2, g3, g4, g5, g6⟩ := lI_len hI3 hw3
  have k3 := hI3.2.2.1
  have e1 : q_fd x 2 1 a = .ref e := by
    have := g1
    rw [z_fd_putF, if_neg (fun z => by cases z.2.1)] at this
    exact this
  have al3 : q_al (q_putF x 2 0 a (.int (mc + 1))) 2 a = true := h1
  have rc : jf_AL_rangeCheckForAdd x a (nI p) = some (x, ()) := by
    unfold jf_AL_rangeCheckForAdd
    rw [y_gI h1 h3, Option.bind_some, if_neg (nI_nlt hp (by omega)), if_pos (nI_pos' (by omega))]
  unfold jf_AL_addAt
  rw [y_av h1, Option.bind_some, rc, Option.bind_some, y_gI h1 h2, Option.bind_some, y_pI h1, Option.bind_some, y_gI al3 k3, Option.bind_some, y_gRs al3 g1, Option.bind_some, g2, Option.bind_some]
  by_cases hc : n = xs.length
  · subst hc
    rw [if_pos rfl, y_av al3, Option.bind_some]
    obtain ⟨x4, cap, f, k1, k2, k4, k5, k6, k7⟩ := L_grow hI3 hw3 hok (by omega) (fun e' cap' f' q1 q2 => g6 e' cap' f' q1 q2)
    obtain ⟨m1, m2, m3, m4, m5, m6, m7⟩ := k2
    have hw4 := wf_gR hw3 ⟨m1, m2, m3, m4, m5, m6, m7⟩
    rw [k1, Option.bind_some]
    obtain ⟨y, r1, r2, r3, r4, r5, r6, r7, r8, r9⟩ := L_addEnd (x := x) (x4 := x4) (e := q_sz x) (cap := cap) (f := f) (mc := mc + 1) (p := p) (v := v) hJ hL hw4 m3 m4 m5 (fun c j b => by rw [m6, z_fd_putF]; rfl) (fun b => by
      rw [m7]
      by_cases hb : b = q_sz x
      · rw [if_pos ⟨rfl, hb⟩, if_pos hb]
      · rw [if_neg (fun z => hb z.2), if_neg hb]; rfl) k4 k5 (by omega) k7 hok hv hl (fun b zs hb _ => jL_fresh hJ hw b zs hb) (by have := hw.1; omega) hp
    have m1 : q_sz x4 = q_sz x + 1 := m1
    have m2 : q_sl x4 = q_sl x + cap := m2
    exact ⟨y, r1, r2, ⟨r3, r4, r5, r6, by omega, by omega, by omega, by omega, r9⟩, by omega⟩
  · rcases g5 with g5 | ⟨f, g5, g7, g8, g9⟩
    · exact absurd g5 hc
    · rw [if_neg (fun z => hc ((nI_eq (by omega) (by omega)).mp z).symm)]
      obtain ⟨y, r1, r2, r3, r4, r5, r6, r7, r8, r9⟩ := L_addEnd (x := x) (x4 := q_putF x 2 0 a (.int (mc + 1))) (e := e) (cap := n) (f := f) (mc := mc + 1) (p := p) (v := v) hJ hL hw3 rfl rfl rfl (fun c j b => by
        rw [z_fd_putF]
        by_cases h : c = 2 ∧ j = 1 ∧ b = a
        · obtain ⟨rfl, rfl, rfl⟩ := h
          rw [if_neg (fun z => by cases z.2.1), if_pos ⟨rfl, rfl, rfl⟩]; exact e1
        · rw [if_neg (c := c = 2 ∧ j = 1 ∧ b = a) h]) (fun b => by
        by_cases hb : b = e
        · rw [if_pos hb, hb]; exact g5
        · rw [if_neg hb]; rfl) (by omega) g7 g4 g9 hok hv hl (jL_own hJ hL e1 g8) g8 hp
      have r7 : q_sz y = q_sz x := r7
      have r8 : q_sl y = q_sl x := r8
      exact ⟨y, r1, r2, ⟨r3, r4, r5, r6, by omega, by omega, by omega, by omega, r9⟩, by omega⟩
set_option maxHeartbeats 2000000 in
theorem L_remove {x : q_S} {L : Nat → Option (List Nat)} {a p : Nat} {xs : List Nat} (hJ : jL x L) (hL : L a = some xs) (hw : wf x) (hp : p < xs.length) : ∃ y r, jf_AL_remove x a (nI p) = some (y, r) ∧ jL y (fun b => if b = a then some (xs.eraseIdx p) else L b) ∧ oL x y ∧ q_sz y = q_sz x ∧ q_sl y = q_sl x := by
  obtain ⟨hI, hok, hlen⟩ := hJ.1 a xs hL
  obtain ⟨h1, ⟨mc, h2⟩, h3, e, h4, h5⟩ := hI
  rcases h5 with ⟨-, h5⟩ | ⟨cap, f, h5, h6, h7, h8, h9⟩
  · rw [h5] at hp; exact absurd hp (Nat.not_lt_zero _)
  · have hez : e ≠ q_z0 x := fun z => by rw [z, hw.2.1] at h5; cases h5
    have el : (xs.eraseIdx p).length = xs.length - 1 := List.length_eraseIdx_of_lt hp
    have al3 : q_al (q_putF x 2 0 a (.int (mc + 1))) 2 a = true := h1
    have k3 : q_fd (q_putF x 2 0 a (.int (mc + 1))) 2 2 a = .int (nI xs.length) := by rw [z_fd_putF, if_neg (fun z => by cases z.2.1)]; exact h3
    have hgen : ∀ (g : Nat → Option Nat), (∀ i, i < xs.length - 1 → g i = (xs.eraseIdx p)[i]?) → ∀ y, q_al y = q_al x → q_ai y = q_ai x → q_en y = q_en x → q_sz y = q_sz x → q_sl y = q_sl x → wf y → (∀ c j b, q_fd y c j b = if c = 2 ∧ j = 2 ∧ b = a then .int (nI (xs.length - 1)) else if c = 2 ∧ j = 0 ∧ b = a then .int (mc + 1) else q_fd x c j b) → (∀ b, q_ar y 0 b = if b = e then some (cap, va_up g (xs.length - 1) none) else q_ar x 0 b) → jL y (fun b => if b = a then some (xs.eraseIdx p) else L b) ∧ oL x y := by
      intro g hg y y1 y2 y3 y4 y5 y6 y7 y8
      refine L_put (e := e) (cap := cap) (f := f) (g := va_up g (xs.length - 1) none) (mc := mc + 1) hJ hL hw y6 h4 h5 hez h7 h8 y1 y2 y3 y4 y5 (by rw [el]; exact y7) y8 (by omega) (fun i hi => ?_) (fun w hw => hok w (List.mem_of_mem_eraseIdx hw)) (by omega)
      rw [el] at hi
      unfold va_up
      rw [if_neg (by omega)]
      exact hg i hi
    unfold jf_AL_remove
    rw [y_gI h1 h3, Option.bind_some, L_check hp (by omega), Option.bind_some]
    dsimp only
    rw [y_gRs h1 h4, Option.bind_some, y_lR h5 (by omega) (by omega), Option.bind_some, y_av h1, Option.bind_some]
    unfold jf_AL_fastRemove
    rw [y_gI h1 h2, Option.bind_some, y_pI h1, Option.bind_some, y_gI al3 k3, Option.bind_some, show nI xs.length - 1 = nI (xs.length - 1) from nI_sub (b := 1) (by omega)]
    have a5 : q_ar (q_putF x 2 0 a (.int (mc + 1))) 0 e = some (cap, f) := h5
    by_cases hq : xs.length - 1 ≤ p
    · have hpe : p = xs.length - 1 := by omega
      rw [if_pos (nI_le hq (by omega)), y_pI al3, Option.bind_some]
      have a6 : q_ar (q_putF (q_putF x 2 0 a (.int (mc + 1))) 2 2 a (.int (nI (xs.length - 1)))) 0 e = some (cap, f) := h5
      rw [y_sR a6 (show xs.length - 1 < cap by omega) (by omega) y_okn, Option.bind_some, Option.bind_some]
      have := hgen f (fun i hi => by
        rw [List.getElem?_eraseIdx, if_pos (by omega)]
        exact h9 i (by omega)) (q_putR (q_putF (q_putF x 2 0 a (.int (mc + 1))) 2 2 a (.int (nI (xs.length - 1)))) 0 e cap (va_up f (xs.length - 1) none)) rfl rfl rfl rfl rfl (wf_putR (wf_putF (wf_putF hw)) a6) (fun c j b => by rw [z_fd_putR, z_fd_putF, z_fd_putF]) (fun b => by
          rw [z_ar_putR]
          by_cases hb : b = e
          · rw [if_pos ⟨rfl, hb⟩, if_pos hb]
          · rw [if_neg (fun z => hb z.2), if_neg hb]; rfl)
      exact ⟨_, _, rfl, this.1, this.2, rfl, rfl⟩
    · rw [if_neg (nI_ge (a := p) (by omega) (by omega)), nI_1, nI_sub (by omega)]
      have cp := y_cp (x := q_putF x 2 0 a (.int (mc + 1))) (t := 0) (sp := p + 1) (dp := p) (n := xs.length - 1 - p) a5 a5 (by omega) (by omega) (by omega) (by omega) (fun i hi => by
        have hi' : p + 1 + i < xs.length := by omega
        rw [h9 _ hi', List.getElem?_eq_getElem hi']
        exact hok _ (List.getElem_mem hi'))
      rw [cp, Option.bind_some, y_pI (show q_al (q_putR (q_putF x 2 0 a (.int (mc + 1))) 0 e cap (va_cpy f f (p + 1) p (xs.length - 1 - p))) 2 a = true from h1), Option.bind_some]
      have a7 : q_ar (q_putF (q_putR (q_putF x 2 0 a (.int (mc + 1))) 0 e cap (va_cpy f f (p + 1) p (xs.length - 1 - p))) 2 2 a (.int (nI (xs.length - 1)))) 0 e = some (cap, va_cpy f f (p + 1) p (xs.length - 1 - p)) := by rw [z_ar_putF, z_ar_putR, if_pos ⟨rfl, rfl⟩]
      rw [y_sR a7 (show xs.length - 1 < cap by omega) (by omega) y_okn, Option.bind_some, Option.bind_some]
      have := hgen (va_cpy f f (p + 1) p (xs.length - 1 - p)) (fun i hi => by
        rw [List.getElem?_eraseIdx]
        unfold va_cpy
        by_cases hip : i < p
        · rw [if_neg (by omega), if_pos hip]; exact h9 i (by omega)
        · rw [if_pos (by omega), if_neg hip, show p + 1 + (i - p) = i + 1 by omega]; exact h9 _ (by omega)) (q_putR (q_putF (q_putR (q_putF x 2 0 a (.int (mc + 1))) 0 e cap (va_cpy f f (p + 1) p (xs.length - 1 - p))) 2 2 a (.int (nI (xs.length - 1)))) 0 e cap (va_up (va_cpy f f (p + 1) p (xs.length - 1 - p)) (xs.length - 1) none)) rfl rfl rfl rfl rfl (wf_putR (wf_putF (wf_putR (wf_putF hw) a5)) a7) (fun c j b => by rw [z_fd_putR, z_fd_putF, z_fd_putR, z_fd_putF]) (fun b => by
          rw [z_ar_putR]
          by_cases hb : b = e
          · rw [if_pos ⟨rfl, hb⟩, if_pos hb]
          · rw [if_neg (fun z => hb z.2), if_neg hb, z_ar_putF, z_ar_putR, if_neg (fun z => hb z.2)]; rfl)
      exact ⟨_, _, rfl, this.1, this.2, rfl, rfl⟩
