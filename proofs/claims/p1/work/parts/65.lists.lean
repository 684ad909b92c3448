/-! ArrayList: what a list holds; its members. -/
def lI (x : q_S) (a : Nat) (xs : List Nat) : Prop := q_al x 2 a = true ∧ (∃ mc : Int32, q_fd x 2 0 a = .int mc) ∧ q_fd x 2 2 a = .int (nI xs.length) ∧ ∃ e : Nat, q_fd x 2 1 a = .ref e ∧ ((e = q_z0 x ∧ xs = []) ∨ ∃ (cap : Nat) (f : Nat → Option Nat), q_ar x 0 e = some (cap, f) ∧ xs.length ≤ cap ∧ 10 ≤ cap ∧ cap ≤ 2000 ∧ ∀ i, i < xs.length → f i = xs[i]?)
def wf (x : q_S) : Prop := q_z0 x < q_sz x ∧ q_ar x 0 (q_z0 x) = none ∧ (∀ t b, q_sz x ≤ b → q_ai x t b = none ∧ q_ar x t b = none) ∧ ∀ c b, q_sz x ≤ b → q_al x c b = false
def jL (x : q_S) (L : Nat → Option (List Nat)) : Prop := (∀ a xs, L a = some xs → lI x a xs ∧ (∀ v ∈ xs, q_ok x (some v) = true) ∧ xs.length ≤ 1000) ∧ ∀ a b xs ys e, L a = some xs → L b = some ys → q_fd x 2 1 a = .ref e → q_fd x 2 1 b = .ref e → e ≠ q_z0 x → a = b
theorem q_z0_en {x y : q_S} (h : q_en y = q_en x) : q_z0 y = q_z0 x := by unfold q_z0; rw [h]
theorem q_mo_en {x y : q_S} (h : q_en y = q_en x) : q_mo y = q_mo x := by unfold q_mo; rw [h]
theorem q_ok_mono {x y : q_S} (h : ∀ c b, q_al x c b = true → q_al y c b = true) {v : Option Nat} (hv : q_ok x v = true) : q_ok y v = true := by
  cases v with
  | none => rfl
  | some b =>
    obtain ⟨ci, h1, h2⟩ := List.any_eq_true.mp hv
    exact List.any_eq_true.mpr ⟨ci, h1, h ci b h2⟩
theorem lI.fr {x y : q_S} {a : Nat} {xs : List Nat} (h : lI x a xs) (h1 : q_al y 2 a = true) (h2 : ∀ j, q_fd y 2 j a = q_fd x 2 j a) (h3 : ∀ e, q_fd x 2 1 a = .ref e → q_ar y 0 e = q_ar x 0 e) (h4 : q_en y = q_en x) : lI y a xs := by
  obtain ⟨-, ⟨mc, g1⟩, g2, e, g3, g4⟩ := h
  refine ⟨h1, ⟨mc, by rw [h2]; exact g1⟩, by rw [h2]; exact g2, e, by rw [h2]; exact g3, ?_⟩
  rw [q_z0_en h4, h3 e g3]
  exact g4
theorem jL.fr {x y : q_S} {L : Nat → Option (List Nat)} (h : jL x L) (h1 : ∀ c b, q_al x c b = true → q_al y c b = true) (h2 : ∀ a xs, L a = some xs → ∀ j, q_fd y 2 j a = q_fd x 2 j a) (h3 : ∀ a xs e, L a = some xs → q_fd x 2 1 a = .ref e → q_ar y 0 e = q_ar x 0 e) (h4 : q_en y = q_en x) : jL y L := by
  refine ⟨fun a xs ha => ?_, fun a b xs ys e ha hb ga gb ge => ?_⟩
  · obtain ⟨g1, g2, g3⟩ := h.1 a xs ha
    exact ⟨g1.fr (h1 _ _ g1.1) (h2 a xs ha) (fun e he => h3 a xs e ha he) h4, fun v hv => q_ok_mono h1 (g2 v hv), g3⟩
  · rw [h2 a xs ha] at ga
    rw [h2 b ys hb] at gb
    rw [q_z0_en h4] at ge
    exact h.2 a b xs ys e ha hb ga gb ge
theorem jL_upd {x y : q_S} {L : Nat → Option (List Nat)} {a e cap : Nat} {xs ys : List Nat} {f : Nat → Option Nat} {mc : Int32} (hJ : jL x L) (hL : L a = some xs) (hal : q_al y = q_al x) (hen : q_en y = q_en x)
    (hfd : ∀ j b, q_fd y 2 j b = if b = a ∧ j = 0 then .int mc else if b = a ∧ j = 1 then .ref e else if b = a ∧ j = 2 then .int (nI ys.length) else q_fd x 2 j b) (har : ∀ b, q_ar y 0 b = if b = e then some (cap, f) else q_ar x 0 b)
    (hc1 : ys.length ≤ cap) (hc2 : 10 ≤ cap) (hc3 : cap ≤ 2000) (hf : ∀ i, i < ys.length → f i = ys[i]?) (hok : ∀ v ∈ ys, q_ok x (some v) = true) (hlen : ys.length ≤ 1000) (he : ∀ b zs, L b = some zs → b ≠ a → q_fd x 2 1 b ≠ .ref e) (hez : e ≠ q_z0 x) : jL y (fun b => if b = a then some ys else L b) := by
  have mono : ∀ c b, q_al x c b = true → q_al y c b = true := fun c b h => by rw [hal]; exact h
  have oth : ∀ b, b ≠ a → ∀ j, q_fd y 2 j b = q_fd x 2 j b := fun b hb j => by
    rw [hfd, if_neg (fun z => hb z.1), if_neg (fun z => hb z.1), if_neg (fun z => hb z.1)]
  have own1 : q_fd y 2 1 a = .ref e := by rw [hfd, if_neg (fun z => by cases z.2), if_pos ⟨rfl, rfl⟩]
  refine ⟨fun b zs hb => ?_, fun b c zs ws e' hb hc gb gc ge => ?_⟩
  · have hb : (if b = a then some ys else L b) = some zs := hb
    by_cases hba : b = a
    · rw [if_pos hba] at hb
      cases hb
      subst hba
      obtain ⟨g1, -, -⟩ := hJ.1 b xs hL
      refine ⟨⟨mono _ _ g1.1, ⟨mc, by rw [hfd, if_pos ⟨rfl, rfl⟩]⟩, ?_, e, own1, Or.inr ⟨cap, f, by rw [har, if_pos rfl], hc1, hc2, hc3, hf⟩⟩, fun v hv => q_ok_mono mono (hok v hv), hlen⟩
      rw [hfd, if_neg (fun z => by cases z.2), if_neg (fun z => by cases z.2), if_pos ⟨rfl, rfl⟩]
    · rw [if_neg hba] at hb
      obtain ⟨g1, g2, g3⟩ := hJ.1 b zs hb
      exact ⟨g1.fr (mono _ _ g1.1) (oth b hba) (fun e' he' => by rw [har, if_neg (fun z => he b zs hb hba (by rw [← z]; exact he'))]) hen, fun v hv => q_ok_mono mono (g2 v hv), g3⟩
  · have hb : (if b = a then some ys else L b) = some zs := hb
    have hc : (if c = a then some ys else L c) = some ws := hc
    by_cases hba : b = a
    · by_cases hca : c = a
      · rw [hba, hca]
      · rw [if_neg hca] at hc
        rw [hba, own1] at gb
        rw [oth c hca] at gc
        cases gb
        exact absurd gc (he c ws hc hca)
    · rw [if_neg hba] at hb
      rw [oth b hba] at gb
      by_cases hca : c = a
      · rw [hca, own1] at gc
        cases gc
        exact absurd gb (he b zs hb hba)
      · rw [if_neg hca] at hc
        rw [oth c hca] at gc
        rw [q_z0_en hen] at ge
        exact hJ.2 b c zs ws e' hb hc gb gc ge
/-- an elementData that belongs to a list belongs to no other -/
theorem jL_own {x : q_S} {L : Nat → Option (List Nat)} {a e : Nat} {xs : List Nat} (hJ : jL x L) (hL : L a = some xs) (hd : q_fd x 2 1 a = .ref e) (hez : e ≠ q_z0 x) : ∀ b zs, L b = some zs → b ≠ a → q_fd x 2 1 b ≠ .ref e := fun b zs hb hne hg => hne (hJ.2 b a zs xs e hb hL hg hd hez)
theorem jL_fresh {x : q_S} {L : Nat → Option (List Nat)} (hJ : jL x L) (hw : wf x) : ∀ b zs, L b = some zs → q_fd x 2 1 b ≠ .ref (q_sz x) := by
  intro b zs hb hg
  obtain ⟨-, -, -, e, h1, h2⟩ := (hJ.1 b zs hb).1
  cases hg.symm.trans h1
  rcases h2 with ⟨h2, -⟩ | ⟨cap, f, h2, -⟩
  · have := hw.1; omega
  · rw [(hw.2.2.1 0 (q_sz x) (Nat.le_refl _)).2] at h2
    cases h2
section LM
variable {x : q_S} {a : Nat} {xs : List Nat}
theorem L_size (h : lI x a xs) : jf_AL_size x a = some (x, nI xs.length) := by
  unfold jf_AL_size
  rw [y_gI h.1 h.2.2.1]
  rfl
theorem L_isEmpty (h : lI x a xs) (hl : xs.length ≤ 1000) : jf_AL_isEmpty x a = some (x, if xs.length = 0 then 1 else 0) := by
  unfold jf_AL_isEmpty
  rw [y_gI h.1 h.2.2.1]
  show (if nI xs.length = 0 then some (x, 1) else some (x, 0)) = _
  by_cases hc : xs.length = 0
  · rw [if_pos hc, if_pos (by rw [hc]; rfl)]
  · rw [if_neg hc, if_neg (nI_ne0 (by omega) (by omega))]
theorem L_check {i n : Nat} (hi : i < n) (hn : n < 2 ^ 31) : jf_Obs_checkIndex x (nI i) (nI n) = some (x, nI i) := by
  unfold jf_Obs_checkIndex jf_Pre_checkIndex
  rw [if_neg (nI_pos (by omega)), if_pos (nI_lt hi hn)]
  rfl
theorem L_get (h : lI x a xs) (hl : xs.length ≤ 1000) {i : Nat} (hi : i < xs.length) : jf_AL_get x a (nI i) = some (x, xs[i]?) := by
  obtain ⟨h1, -, h3, e, h4, h5⟩ := h
  rcases h5 with ⟨-, h5⟩ | ⟨cap, f, h5, h6, h7, h8, h9⟩
  · rw [h5] at hi; exact absurd hi (Nat.not_lt_zero i)
  · unfold jf_AL_get
    rw [y_gI h1 h3]
    show (jf_Obs_checkIndex x (nI i) (nI xs.length)).bind _ = _
    rw [L_check hi (by omega)]
    show (q_av x (some a) 2).bind _ = _
    rw [y_av h1]
    show (jf_AL_elementData x a (nI i)).bind _ = _
    unfold jf_AL_elementData
    rw [y_gRs h1 h4]
    show ((q_lR x 0 (some e) (nI i)).bind _).bind _ = _
    rw [y_lR h5 (by omega) (by omega), h9 i hi]
    rfl
end LM
/-- what a longer elementData leaves -/
def gR (x y : q_S) (a cap : Nat) (f : Nat → Option Nat) : Prop := q_sz y = q_sz x + 1 ∧ q_sl y = q_sl x + cap ∧ q_al y = q_al x ∧ q_ai y = q_ai x ∧ q_en y = q_en x ∧ (∀ c j b, q_fd y c j b = if c = 2 ∧ j = 1 ∧ b = a then .ref (q_sz x) else q_fd x c j b) ∧ ∀ u b, q_ar y u b = if u = 0 ∧ b = q_sz x then some (cap, f) else q_ar x u b
theorem L_newLen {x : q_S} {c : Nat} (h1 : 10 ≤ c) (h2 : c ≤ 2000) : jf_ArS_newLength x (nI c) (nI (c + 1) - nI c) (nI c >>> (1 &&& 31)) = some (x, nI (c + c / 2)) := by
  have ed : nI (c + 1) - nI c = nI 1 := by
    have k := pk_sub (a := c + 1) (b := c) (by omega)
    rw [Nat.add_sub_cancel_left] at k
    exact k
  have es : nI c >>> ((1 : Int32) &&& 31) = nI (c / 2) := by
    have k := pk_shrN (n := c) (by omega) ((1 : Int32) &&& 31) 1 (by decide)
    rw [Nat.pow_one] at k
    exact k
  unfold jf_ArS_newLength
  rw [ed, es, if_pos (nI_lt (a := 1) (b := c / 2) (by omega) (by omega)), nI_add]
  rw [if_neg (nI_nle (by omega) (by omega)), if_neg (show ¬ (2147483639 : Int32) < nI (c + c / 2) from (nI_nlt (a := 2147483639) (by omega) (by decide) : ¬ nI 2147483639 < nI (c + c / 2)))]
theorem L_growA {x : q_S} {a : Nat} (h1 : q_al x 2 a = true) (h4 : q_fd x 2 1 a = .ref (q_z0 x)) (hz : q_ar x 0 (q_z0 x) = none) : jf_AL_growTo x a (nI 0 + 1) = some (q_putF (q_newR x 0 10) 2 1 a (va_rf (some (q_sz x))), some (q_sz x)) := by
  have e10 : (if (10 : Int32) < nI 0 + 1 then nI 0 + 1 else (10 : Int32)) = nI 10 := by decide
  have e0 : ¬ (0 : Int32) < nI 0 := by decide
  unfold jf_AL_growTo
  simp only [y_gRs h1 h4, Option.bind_some, y_lenZ hz, if_neg e0, if_true, e10, y_nR (x := x) (t := 0) (n := 10) (by omega), y_pR (show q_al (q_newR x 0 10) 2 a = true from h1)]
theorem L_copyOf {x : q_S} {e n c : Nat} {f : Nat → Option Nat} (hw : wf x) (h5 : q_ar x 0 e = some (n, f)) (hn : n ≤ c) (hc : c ≤ 100000) (hok : ∀ i, i < n → q_ok x (f i) = true) : jf_Arr_copyOf x (some e) (nI c) = some (q_putR (q_newR x 0 c) 0 (q_sz x) c (va_cpy f (fun _ => none) 0 0 n), some (q_sz x)) := by
  have hne : e ≠ q_sz x := fun z => by
    rw [z, (hw.2.2.1 0 (q_sz x) (Nat.le_refl _)).2] at h5
    cases h5
  have h5' : q_ar (q_newR x 0 c) 0 e = some (n, f) := by
    rw [z_ar_newR, if_neg (fun z => hne z.2)]; exact h5
  have h6' : q_ar (q_newR x 0 c) 0 (q_sz x) = some (c, fun _ => none) := by
    rw [z_ar_newR, if_pos ⟨rfl, rfl⟩]
  have hcp := y_cp (x := q_newR x 0 c) (sp := 0) (dp := 0) (n := n) h5' h6' (by omega) (by omega) (by omega) (by omega) (fun i hi => by rw [Nat.zero_add]; exact hok i hi)
  have hi : ¬ nI c < nI n := nI_nlt hn (by omega)
  rw [show nI 0 = (0 : Int32) from rfl] at hcp
  unfold jf_Arr_copyOf jf_Arr_copyOfC
  simp only [y_aa h5, Option.bind_some, if_true, y_nR (x := x) (t := 0) hc, y_lenR h5', if_neg hi, hcp]
set_option maxHeartbeats 1000000 in
theorem L_grow {x : q_S} {a : Nat} {xs : List Nat} (h : lI x a xs) (hw : wf x) (hok : ∀ v ∈ xs, q_ok x (some v) = true) (hl : xs.length ≤ 1000) (hfull : ∀ e cap f, q_fd x 2 1 a = .ref e → q_ar x 0 e = some (cap, f) → cap = xs.length) : ∃ y cap f, jf_AL_grow x a = some (y, some (q_sz x)) ∧ gR x y a cap f ∧ xs.length < cap ∧ 10 ≤ cap ∧ cap ≤ xs.length + xs.length / 2 + 10 ∧ ∀ i, i < xs.length → f i = xs[i]? := by
  obtain ⟨h1, -, h3, e, h4, h5⟩ := h
  unfold jf_AL_grow
  simp only [y_gI h1 h3, Option.bind_some, y_av h1]
  rcases h5 with ⟨rfl, h5⟩ | ⟨cap, f, h5, h6, h7, h8, h9⟩
  · subst h5
    simp only [List.length_nil, L_growA h1 h4 hw.2.1, Option.bind_some]
    exact ⟨_, 10, fun _ => none, rfl, ⟨rfl, rfl, rfl, rfl, rfl, fun c j b => rfl, fun u b => rfl⟩, by decide, by decide, by decide, fun i hi => absurd hi (Nat.not_lt_zero i)⟩
  · have hcap : cap = xs.length := hfull e cap f h4 h5
    subst hcap
    have hpos : (0 : Int32) < nI xs.length := (nI_lt (a := 0) (by omega) (by omega) : nI 0 < nI xs.length)
    have hcp := L_copyOf (c := xs.length + xs.length / 2) hw h5 (by omega) (by omega) (fun i hi => by
        rw [h9 i hi, List.getElem?_eq_getElem hi]
        exact hok _ (List.getElem_mem hi))
    have hg : jf_AL_growTo x a (nI xs.length + 1) = some (q_putF (q_putR (q_newR x 0 (xs.length + xs.length / 2)) 0 (q_sz x) (xs.length + xs.length / 2) (va_cpy f (fun _ => none) 0 0 xs.length)) 2 1 a (va_rf (some (q_sz x))), some (q_sz x)) := by
      unfold jf_AL_growTo
      simp only [y_gRs h1 h4, Option.bind_some, y_lenR h5, if_pos hpos, nI_1, L_newLen h7 h8, hcp, y_pR (show q_al (q_putR (q_newR x 0 (xs.length + xs.length / 2)) 0 (q_sz x) (xs.length + xs.length / 2) (va_cpy f (fun _ => none) 0 0 xs.length)) 2 a = true from h1)]
    simp only [hg, Option.bind_some]
    refine ⟨_, xs.length + xs.length / 2, va_cpy f (fun _ => none) 0 0 xs.length, rfl, ⟨rfl, rfl, rfl, rfl, rfl, fun c j b => rfl, fun u b => ?_⟩, by omega, by omega, by omega, fun i hi => ?_⟩
    · show (if u = 0 ∧ b = q_sz x then _ else (if u = 0 ∧ b = q_sz x then _ else q_ar x u b)) = _
      by_cases hc : u = 0 ∧ b = q_sz x
      · rw [if_pos hc, if_pos hc]
      · rw [if_neg hc, if_neg hc, if_neg hc]
    · rw [pk_cpy_in (Nat.zero_le i) (by omega), Nat.sub_zero, Nat.zero_add]
      exact h9 i hi
/-- what a member of the list leaves of all else -/
def oL (x y : q_S) : Prop := q_al y = q_al x ∧ q_ai y = q_ai x ∧ q_en y = q_en x ∧ (∀ c, c ≠ 2 → q_fd y c = q_fd x c) ∧ q_sz x ≤ q_sz y ∧ q_sz y ≤ q_sz x + 1 ∧ q_sl x ≤ q_sl y ∧ q_sl y ≤ q_sl x + 1510 ∧ wf y
theorem wf_eq {x y : q_S} (hw : wf x) (hz : q_sz y = q_sz x) (hal : q_al y = q_al x) (hai : q_ai y = q_ai x) (hen : q_en y = q_en x) (har : ∀ u b, q_ar x u b = none → q_ar y u b = none) : wf y := by
  refine ⟨by rw [q_z0_en hen, hz]; exact hw.1, by rw [q_z0_en hen]; exact har _ _ hw.2.1, fun t b hb => ?_, fun c b hb => ?_⟩
  · rw [hz] at hb
    exact ⟨by rw [hai]; exact (hw.2.2.1 t b hb).1, har _ _ (hw.2.2.1 t b hb).2⟩
  · rw [hz] at hb
    rw [hal]; exact hw.2.2.2 c b hb
theorem wf_gR {x y : q_S} {a cap : Nat} {f : Nat → Option Nat} (hw : wf x) (h : gR x y a cap f) : wf y := by
  obtain ⟨h1, h2, h3, h4, h5, h6, h7⟩ := h
  have hz := hw.1
  refine ⟨by rw [q_z0_en h5, h1]; omega, by rw [q_z0_en h5, h7, if_neg (fun z => by omega)]; exact hw.2.1, fun t b hb => ?_, fun c b hb => ?_⟩
  · rw [h1] at hb
    exact ⟨by rw [h4]; exact (hw.2.2.1 t b (by omega)).1, by rw [h7, if_neg (fun z => by omega)]; exact (hw.2.2.1 t b (by omega)).2⟩
  · rw [h1] at hb
    rw [h3]; exact hw.2.2.2 c b (by omega)
